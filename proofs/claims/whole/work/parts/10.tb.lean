section
variable {p : Program} {l : Launch} {e : Env} {R : Room} {s : State} {m : MethodId} {args : Array Value} {below : List Frame} {meth : Method} {c : Code} {E : Ev} {nL cells slots : Nat} {Q : State → Prop} {own : String} {cc : ByteArray} {pc : Nat} {L : List (Nat × Value)} {st : List Value} {M : Mm}
theorem G.irm (C : Cx own cc nL p R s m args meth c E) {x y : Int32} (hd : decode cc pc = .ok (.irem, 1)) (hne : ¬ y = 0) (kk : G p l e R s m args below meth c E nL cells slots Q (pc + 1) L (.int (rmI x y) :: st) M) : G p l e R s m args below meth c E nL cells slots Q pc L (.int y :: .int x :: st) M := G.irem C hd hne kk
theorem G.isl (C : Cx own cc nL p R s m args meth c E) {x y : Int32} (hd : decode cc pc = .ok (.ishl, 1)) (kk : G p l e R s m args below meth c E nL cells slots Q (pc + 1) L (.int (shI x y) :: st) M) : G p l e R s m args below meth c E nL cells slots Q pc L (.int y :: .int x :: st) M := G.ishl C hd kk
theorem G.isr (C : Cx own cc nL p R s m args meth c E) {x y : Int32} (hd : decode cc pc = .ok (.ishr, 1)) (kk : G p l e R s m args below meth c E nL cells slots Q (pc + 1) L (.int (shrI x y) :: st) M) : G p l e R s m args below meth c E nL cells slots Q pc L (.int y :: .int x :: st) M := G.ishr C hd kk
end
theorem tg_844 : Cond.code yX4_block cX4_block 9 (some .long) ∈ tblG := inG_i 844 (by decide +kernel) (by decide +kernel)
theorem tg_101 : Cond.initialized RX4 ∈ tblG := inG_i 101 (by decide +kernel) (by decide +kernel)
theorem ok_X4_block : okY yX4_block 4 = true := by decide +kernel
theorem tg_852 : Cond.methodLink RX4 9 yX4_block ∈ tblG := inG_i 852 (by decide +kernel) (by decide +kernel)
theorem tg_843 : Cond.static yX4_block ∈ tblG := inG_i 843 (by decide +kernel) (by decide +kernel)
theorem tg_469 : Cond.constantLong RX4 15 (-1) ∈ tblG := inG_i 469 (by decide +kernel) (by decide +kernel)
theorem tg_467 : Cond.constantLong RX4 17 9187201950435737471 ∈ tblG := inG_i 467 (by decide +kernel) (by decide +kernel)
theorem tg_468 : Cond.constantLong RX4 19 (-72340172838076674) ∈ tblG := inG_i 468 (by decide +kernel) (by decide +kernel)
theorem tg_436 : Cond.constantLong RX4 21 72340172838076673 ∈ tblG := inG_i 436 (by decide +kernel) (by decide +kernel)
theorem tg_575 : Cond.constantLong RX4 23 (-9187201950435737472) ∈ tblG := inG_i 575 (by decide +kernel) (by decide +kernel)
theorem tg_435 : Cond.constantLong RX4 25 255 ∈ tblG := inG_i 435 (by decide +kernel) (by decide +kernel)
theorem tg_576 : Cond.constantLong RX4 27 (-72057594037927936) ∈ tblG := inG_i 576 (by decide +kernel) (by decide +kernel)
theorem tg_466 : Cond.code yX4_moved cX4_moved 3 (some .long) ∈ tblG := inG_i 466 (by decide +kernel) (by decide +kernel)
theorem ok_X4_moved : okY yX4_moved 2 = true := by decide +kernel
theorem tg_464 : Cond.methodLink RX4 29 yX4_moved ∈ tblG := inG_i 464 (by decide +kernel) (by decide +kernel)
theorem tg_465 : Cond.static yX4_moved ∈ tblG := inG_i 465 (by decide +kernel) (by decide +kernel)
theorem tg_574 : Cond.code yX4_rimOf cX4_rimOf 1 (some .long) ∈ tblG := inG_i 574 (by decide +kernel) (by decide +kernel)
theorem ok_X4_rimOf : okY yX4_rimOf 1 = true := by decide +kernel
theorem tg_572 : Cond.methodLink RX4 33 yX4_rimOf ∈ tblG := inG_i 572 (by decide +kernel) (by decide +kernel)
theorem tg_573 : Cond.static yX4_rimOf ∈ tblG := inG_i 573 (by decide +kernel) (by decide +kernel)
theorem tg_571 : Cond.code yX4_reachedFrom cX4_reachedFrom 6 (some .long) ∈ tblG := inG_i 571 (by decide +kernel) (by decide +kernel)
theorem ok_X4_reachedFrom : okY yX4_reachedFrom 2 = true := by decide +kernel
theorem tg_586 : Cond.methodLink RX4 37 yX4_reachedFrom ∈ tblG := inG_i 586 (by decide +kernel) (by decide +kernel)
theorem tg_570 : Cond.static yX4_reachedFrom ∈ tblG := inG_i 570 (by decide +kernel) (by decide +kernel)
theorem tg_585 : Cond.code yX4_reached cX4_reached 5 (some .long) ∈ tblG := inG_i 585 (by decide +kernel) (by decide +kernel)
theorem ok_X4_reached : okY yX4_reached 1 = true := by decide +kernel
theorem tg_871 : Cond.methodLink RX4 40 yX4_reached ∈ tblG := inG_i 871 (by decide +kernel) (by decide +kernel)
theorem tg_584 : Cond.static yX4_reached ∈ tblG := inG_i 584 (by decide +kernel) (by decide +kernel)
theorem tg_473 : Cond.methodLink RX4 44 yJ9_min_7cf53 ∈ tblG := inG_i 473 (by decide +kernel) (by decide +kernel)
theorem tg_421 : Cond.static yJ9_min_7cf53 ∈ tblG := inG_i 421 (by decide +kernel) (by decide +kernel)
theorem tg_100 : Cond.initialized RJ9 ∈ tblG := inG_i 100 (by decide +kernel) (by decide +kernel)
theorem tg_422 : Cond.code yJ9_min_7cf53 cJ9_min_7cf53 2 (some .int) ∈ tblG := inG_i 422 (by decide +kernel) (by decide +kernel)
theorem tg_429 : Cond.constantLong RX4 50 1085102592571150095 ∈ tblG := inG_i 429 (by decide +kernel) (by decide +kernel)
theorem tg_430 : Cond.constantLong RX4 52 3689348814741910323 ∈ tblG := inG_i 430 (by decide +kernel) (by decide +kernel)
theorem tg_431 : Cond.constantLong RX4 54 6148914691236517205 ∈ tblG := inG_i 431 (by decide +kernel) (by decide +kernel)
theorem tg_443 : Cond.constantLong RX4 56 1085102592318504960 ∈ tblG := inG_i 443 (by decide +kernel) (by decide +kernel)
theorem tg_444 : Cond.constantLong RX4 58 3689292520605548544 ∈ tblG := inG_i 444 (by decide +kernel) (by decide +kernel)
theorem tg_445 : Cond.constantLong RX4 60 6124988953138320640 ∈ tblG := inG_i 445 (by decide +kernel) (by decide +kernel)
theorem tg_442 : Cond.code yX4_crossed cX4_crossed 6 (some .long) ∈ tblG := inG_i 442 (by decide +kernel) (by decide +kernel)
theorem ok_X4_crossed : okY yX4_crossed 1 = true := by decide +kernel
theorem tg_440 : Cond.methodLink RX4 62 yX4_crossed ∈ tblG := inG_i 440 (by decide +kernel) (by decide +kernel)
theorem tg_441 : Cond.static yX4_crossed ∈ tblG := inG_i 441 (by decide +kernel) (by decide +kernel)
theorem tg_428 : Cond.code yX4_mirrored cX4_mirrored 4 (some .long) ∈ tblG := inG_i 428 (by decide +kernel) (by decide +kernel)
theorem ok_X4_mirrored : okY yX4_mirrored 1 = true := by decide +kernel
theorem tg_426 : Cond.methodLink RX4 65 yX4_mirrored ∈ tblG := inG_i 426 (by decide +kernel) (by decide +kernel)
theorem tg_427 : Cond.static yX4_mirrored ∈ tblG := inG_i 427 (by decide +kernel) (by decide +kernel)
theorem tg_439 : Cond.code yX4_quarterTurned cX4_quarterTurned 2 (some .long) ∈ tblG := inG_i 439 (by decide +kernel) (by decide +kernel)
theorem ok_X4_quarterTurned : okY yX4_quarterTurned 1 = true := by decide +kernel
theorem tg_437 : Cond.methodLink RX4 68 yX4_quarterTurned ∈ tblG := inG_i 437 (by decide +kernel) (by decide +kernel)
theorem tg_438 : Cond.static yX4_quarterTurned ∈ tblG := inG_i 438 (by decide +kernel) (by decide +kernel)
