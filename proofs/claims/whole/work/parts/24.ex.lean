set_option maxRecDepth 100000 in
theorem ex_278_282 : ExW RX9 278 282 2 := ⟨by decide +kernel, by decide +kernel, by decide +kernel, tg_642, tg_107, by decide +kernel, by decide +kernel⟩
set_option maxRecDepth 100000 in
theorem ex_343_347 : ExN RX9 343 347 := ⟨by decide +kernel, by decide +kernel, by decide +kernel, tg_895, tg_113, by decide +kernel, by decide +kernel⟩
set_option maxRecDepth 100000 in
theorem ex_256_260 : ExW RX9 256 260 3 := ⟨by decide +kernel, by decide +kernel, by decide +kernel, tg_942, tg_114, by decide +kernel, by decide +kernel⟩
