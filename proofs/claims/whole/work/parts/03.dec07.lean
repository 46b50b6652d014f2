theorem dL_law_555 : decode cL_law 555 = .ok (.iload 4, 2) := by decide +kernel
theorem dL_law_557 : decode cL_law 557 = .ok (.iconst 1, 1) := by decide +kernel
theorem dL_law_558 : decode cL_law 558 = .ok (.iadd, 1) := by decide +kernel
theorem dL_law_559 : decode cL_law 559 = .ok (.iaload, 1) := by decide +kernel
theorem dL_law_560 : decode cL_law 560 = .ok (.aload_n 3, 1) := by decide +kernel
theorem dL_law_561 : decode cL_law 561 = .ok (.invokestatic 155, 3) := by decide +kernel
theorem dL_law_564 : decode cL_law 564 = .ok (.istore 5, 2) := by decide +kernel
theorem dL_law_566 : decode cL_law 566 = .ok (.aload_n 2, 1) := by decide +kernel
theorem dL_law_567 : decode cL_law 567 = .ok (.aload_n 0, 1) := by decide +kernel
theorem dL_law_568 : decode cL_law 568 = .ok (.iload 4, 2) := by decide +kernel
theorem dL_law_570 : decode cL_law 570 = .ok (.iconst 1, 1) := by decide +kernel
theorem dL_law_571 : decode cL_law 571 = .ok (.iadd, 1) := by decide +kernel
theorem dL_law_572 : decode cL_law 572 = .ok (.iaload, 1) := by decide +kernel
theorem dL_law_573 : decode cL_law 573 = .ok (.invokevirtual 157, 3) := by decide +kernel
theorem dL_law_576 : decode cL_law 576 = .ok (.lstore 6, 2) := by decide +kernel
theorem dL_law_578 : decode cL_law 578 = .ok (.aload_n 2, 1) := by decide +kernel
theorem dL_law_579 : decode cL_law 579 = .ok (.invokevirtual 137, 3) := by decide +kernel
theorem dL_law_582 : decode cL_law 582 = .ok (.iload 5, 2) := by decide +kernel
theorem dL_law_584 : decode cL_law 584 = .ok (.if_icmp .eq 5, 3) := by decide +kernel
theorem dL_law_587 : decode cL_law 587 = .ok (.iconst 0, 1) := by decide +kernel
theorem dL_law_588 : decode cL_law 588 = .ok (.ireturn, 1) := by decide +kernel
theorem dL_law_589 : decode cL_law 589 = .ok (.iload 5, 2) := by decide +kernel
theorem dL_law_591 : decode cL_law 591 = .ok (.ifCond .ne 14, 3) := by decide +kernel
theorem dL_law_594 : decode cL_law 594 = .ok (.aload_n 3, 1) := by decide +kernel
theorem dL_law_595 : decode cL_law 595 = .ok (.iconst 0, 1) := by decide +kernel
theorem dL_law_596 : decode cL_law 596 = .ok (.laload, 1) := by decide +kernel
theorem dL_law_597 : decode cL_law 597 = .ok (.lload 6, 2) := by decide +kernel
theorem dL_law_599 : decode cL_law 599 = .ok (.lcmp, 1) := by decide +kernel
theorem dL_law_600 : decode cL_law 600 = .ok (.ifCond .eq 5, 3) := by decide +kernel
theorem dL_law_603 : decode cL_law 603 = .ok (.iconst 0, 1) := by decide +kernel
theorem dL_law_604 : decode cL_law 604 = .ok (.ireturn, 1) := by decide +kernel
theorem dL_law_605 : decode cL_law 605 = .ok (.goto 2193, 3) := by decide +kernel
theorem dL_law_608 : decode cL_law 608 = .ok (.aload_n 1, 1) := by decide +kernel
theorem dL_law_609 : decode cL_law 609 = .ok (.aload_n 0, 1) := by decide +kernel
theorem dL_law_610 : decode cL_law 610 = .ok (.iload 4, 2) := by decide +kernel
theorem dL_law_612 : decode cL_law 612 = .ok (.iconst 1, 1) := by decide +kernel
theorem dL_law_613 : decode cL_law 613 = .ok (.iadd, 1) := by decide +kernel
theorem dL_law_614 : decode cL_law 614 = .ok (.iaload, 1) := by decide +kernel
theorem dL_law_615 : decode cL_law 615 = .ok (.i2l, 1) := by decide +kernel
theorem dL_law_616 : decode cL_law 616 = .ok (.bipush 32, 2) := by decide +kernel
theorem dL_law_618 : decode cL_law 618 = .ok (.lshl, 1) := by decide +kernel
theorem dL_law_619 : decode cL_law 619 = .ok (.aload_n 0, 1) := by decide +kernel
theorem dL_law_620 : decode cL_law 620 = .ok (.iload 4, 2) := by decide +kernel
theorem dL_law_622 : decode cL_law 622 = .ok (.iconst 2, 1) := by decide +kernel
theorem dL_law_623 : decode cL_law 623 = .ok (.iadd, 1) := by decide +kernel
theorem dL_law_624 : decode cL_law 624 = .ok (.iaload, 1) := by decide +kernel
theorem dL_law_625 : decode cL_law 625 = .ok (.i2l, 1) := by decide +kernel
theorem dL_law_626 : decode cL_law 626 = .ok (.ldc2_w 158, 3) := by decide +kernel
theorem dL_law_629 : decode cL_law 629 = .ok (.land, 1) := by decide +kernel
theorem dL_law_630 : decode cL_law 630 = .ok (.lor, 1) := by decide +kernel
theorem dL_law_631 : decode cL_law 631 = .ok (.invokevirtual 160, 3) := by decide +kernel
theorem dL_law_634 : decode cL_law 634 = .ok (.aload_n 2, 1) := by decide +kernel
theorem dL_law_635 : decode cL_law 635 = .ok (.aload_n 0, 1) := by decide +kernel
theorem dL_law_636 : decode cL_law 636 = .ok (.iload 4, 2) := by decide +kernel
theorem dL_law_638 : decode cL_law 638 = .ok (.iconst 1, 1) := by decide +kernel
theorem dL_law_639 : decode cL_law 639 = .ok (.iadd, 1) := by decide +kernel
theorem dL_law_640 : decode cL_law 640 = .ok (.iaload, 1) := by decide +kernel
theorem dL_law_641 : decode cL_law 641 = .ok (.i2l, 1) := by decide +kernel
theorem dL_law_642 : decode cL_law 642 = .ok (.bipush 32, 2) := by decide +kernel
theorem dL_law_644 : decode cL_law 644 = .ok (.lshl, 1) := by decide +kernel
theorem dL_law_645 : decode cL_law 645 = .ok (.aload_n 0, 1) := by decide +kernel
theorem dL_law_646 : decode cL_law 646 = .ok (.iload 4, 2) := by decide +kernel
theorem dL_law_648 : decode cL_law 648 = .ok (.iconst 2, 1) := by decide +kernel
theorem dL_law_649 : decode cL_law 649 = .ok (.iadd, 1) := by decide +kernel
theorem dL_law_650 : decode cL_law 650 = .ok (.iaload, 1) := by decide +kernel
theorem dL_law_651 : decode cL_law 651 = .ok (.i2l, 1) := by decide +kernel
theorem dL_law_652 : decode cL_law 652 = .ok (.ldc2_w 158, 3) := by decide +kernel
theorem dL_law_655 : decode cL_law 655 = .ok (.land, 1) := by decide +kernel
theorem dL_law_656 : decode cL_law 656 = .ok (.lor, 1) := by decide +kernel
theorem dL_law_657 : decode cL_law 657 = .ok (.invokevirtual 164, 3) := by decide +kernel
theorem dL_law_660 : decode cL_law 660 = .ok (.lcmp, 1) := by decide +kernel
theorem dL_law_661 : decode cL_law 661 = .ok (.ifCond .eq 2137, 3) := by decide +kernel
theorem dL_law_664 : decode cL_law 664 = .ok (.iconst 0, 1) := by decide +kernel
theorem dL_law_665 : decode cL_law 665 = .ok (.ireturn, 1) := by decide +kernel
theorem dL_law_666 : decode cL_law 666 = .ok (.aload_n 1, 1) := by decide +kernel
theorem dL_law_667 : decode cL_law 667 = .ok (.aload_n 0, 1) := by decide +kernel
theorem dL_law_668 : decode cL_law 668 = .ok (.iload 4, 2) := by decide +kernel
theorem dL_law_670 : decode cL_law 670 = .ok (.iconst 1, 1) := by decide +kernel
theorem dL_law_671 : decode cL_law 671 = .ok (.iadd, 1) := by decide +kernel
theorem dL_law_672 : decode cL_law 672 = .ok (.iaload, 1) := by decide +kernel
theorem dL_law_673 : decode cL_law 673 = .ok (.aload_n 0, 1) := by decide +kernel
theorem dL_law_674 : decode cL_law 674 = .ok (.iload 4, 2) := by decide +kernel
theorem dL_law_676 : decode cL_law 676 = .ok (.iconst 2, 1) := by decide +kernel
theorem dL_law_677 : decode cL_law 677 = .ok (.iadd, 1) := by decide +kernel
theorem dL_law_678 : decode cL_law 678 = .ok (.iaload, 1) := by decide +kernel
theorem dL_law_679 : decode cL_law 679 = .ok (.aload_n 0, 1) := by decide +kernel
theorem dL_law_680 : decode cL_law 680 = .ok (.iload 4, 2) := by decide +kernel
theorem dL_law_682 : decode cL_law 682 = .ok (.iconst 3, 1) := by decide +kernel
theorem dL_law_683 : decode cL_law 683 = .ok (.iadd, 1) := by decide +kernel
theorem dL_law_684 : decode cL_law 684 = .ok (.iaload, 1) := by decide +kernel
theorem dL_law_685 : decode cL_law 685 = .ok (.ifCond .eq 7, 3) := by decide +kernel
theorem dL_law_688 : decode cL_law 688 = .ok (.iconst 1, 1) := by decide +kernel
theorem dL_law_689 : decode cL_law 689 = .ok (.goto 4, 3) := by decide +kernel
theorem dL_law_692 : decode cL_law 692 = .ok (.iconst 0, 1) := by decide +kernel
theorem dL_law_693 : decode cL_law 693 = .ok (.aload_n 3, 1) := by decide +kernel
theorem dL_law_694 : decode cL_law 694 = .ok (.invokestatic 165, 3) := by decide +kernel
theorem dL_law_697 : decode cL_law 697 = .ok (.istore 5, 2) := by decide +kernel
theorem dL_law_699 : decode cL_law 699 = .ok (.aload_n 2, 1) := by decide +kernel
theorem dL_law_700 : decode cL_law 700 = .ok (.aload_n 0, 1) := by decide +kernel
theorem dL_law_701 : decode cL_law 701 = .ok (.iload 4, 2) := by decide +kernel
theorem dL_law_703 : decode cL_law 703 = .ok (.iconst 1, 1) := by decide +kernel
theorem dL_law_704 : decode cL_law 704 = .ok (.iadd, 1) := by decide +kernel
theorem dL_law_705 : decode cL_law 705 = .ok (.iaload, 1) := by decide +kernel
theorem dL_law_706 : decode cL_law 706 = .ok (.aload_n 0, 1) := by decide +kernel
theorem dL_law_707 : decode cL_law 707 = .ok (.iload 4, 2) := by decide +kernel
theorem dL_law_709 : decode cL_law 709 = .ok (.iconst 2, 1) := by decide +kernel
theorem dL_law_710 : decode cL_law 710 = .ok (.iadd, 1) := by decide +kernel
theorem dL_law_711 : decode cL_law 711 = .ok (.iaload, 1) := by decide +kernel
theorem dL_law_712 : decode cL_law 712 = .ok (.aload_n 0, 1) := by decide +kernel
theorem dL_law_713 : decode cL_law 713 = .ok (.iload 4, 2) := by decide +kernel
theorem dL_law_715 : decode cL_law 715 = .ok (.iconst 3, 1) := by decide +kernel
theorem dL_law_716 : decode cL_law 716 = .ok (.iadd, 1) := by decide +kernel
theorem dL_law_717 : decode cL_law 717 = .ok (.iaload, 1) := by decide +kernel
theorem dL_law_718 : decode cL_law 718 = .ok (.ifCond .eq 7, 3) := by decide +kernel
theorem dL_law_721 : decode cL_law 721 = .ok (.iconst 1, 1) := by decide +kernel
theorem dL_law_722 : decode cL_law 722 = .ok (.goto 4, 3) := by decide +kernel
theorem dL_law_725 : decode cL_law 725 = .ok (.iconst 0, 1) := by decide +kernel
theorem dL_law_726 : decode cL_law 726 = .ok (.invokevirtual 168, 3) := by decide +kernel
theorem dL_law_729 : decode cL_law 729 = .ok (.istore 6, 2) := by decide +kernel
theorem dL_law_731 : decode cL_law 731 = .ok (.aload_n 2, 1) := by decide +kernel
theorem dL_law_732 : decode cL_law 732 = .ok (.invokevirtual 137, 3) := by decide +kernel
theorem dL_law_735 : decode cL_law 735 = .ok (.iload 5, 2) := by decide +kernel
theorem dL_law_737 : decode cL_law 737 = .ok (.if_icmp .eq 5, 3) := by decide +kernel
theorem dL_law_740 : decode cL_law 740 = .ok (.iconst 0, 1) := by decide +kernel
theorem dL_law_741 : decode cL_law 741 = .ok (.ireturn, 1) := by decide +kernel
theorem dL_law_742 : decode cL_law 742 = .ok (.iload 5, 2) := by decide +kernel
theorem dL_law_744 : decode cL_law 744 = .ok (.ifCond .ne 15, 3) := by decide +kernel
theorem dL_law_747 : decode cL_law 747 = .ok (.aload_n 3, 1) := by decide +kernel
theorem dL_law_748 : decode cL_law 748 = .ok (.iconst 0, 1) := by decide +kernel
theorem dL_law_749 : decode cL_law 749 = .ok (.laload, 1) := by decide +kernel
theorem dL_law_750 : decode cL_law 750 = .ok (.iload 6, 2) := by decide +kernel
theorem dL_law_752 : decode cL_law 752 = .ok (.i2l, 1) := by decide +kernel
theorem dL_law_753 : decode cL_law 753 = .ok (.lcmp, 1) := by decide +kernel
theorem dL_law_754 : decode cL_law 754 = .ok (.ifCond .eq 5, 3) := by decide +kernel
theorem dL_law_757 : decode cL_law 757 = .ok (.iconst 0, 1) := by decide +kernel
theorem dL_law_758 : decode cL_law 758 = .ok (.ireturn, 1) := by decide +kernel
theorem dL_law_759 : decode cL_law 759 = .ok (.goto 2039, 3) := by decide +kernel
theorem dL_law_762 : decode cL_law 762 = .ok (.aload_n 1, 1) := by decide +kernel
theorem dL_law_763 : decode cL_law 763 = .ok (.aload_n 0, 1) := by decide +kernel
theorem dL_law_764 : decode cL_law 764 = .ok (.iload 4, 2) := by decide +kernel
theorem dL_law_766 : decode cL_law 766 = .ok (.iconst 1, 1) := by decide +kernel
theorem dL_law_767 : decode cL_law 767 = .ok (.iadd, 1) := by decide +kernel
theorem dL_law_768 : decode cL_law 768 = .ok (.iaload, 1) := by decide +kernel
theorem dL_law_769 : decode cL_law 769 = .ok (.aload_n 0, 1) := by decide +kernel
theorem dL_law_770 : decode cL_law 770 = .ok (.iload 4, 2) := by decide +kernel
theorem dL_law_772 : decode cL_law 772 = .ok (.iconst 2, 1) := by decide +kernel
theorem dL_law_773 : decode cL_law 773 = .ok (.iadd, 1) := by decide +kernel
theorem dL_law_774 : decode cL_law 774 = .ok (.iaload, 1) := by decide +kernel
theorem dL_law_775 : decode cL_law 775 = .ok (.ifCond .eq 7, 3) := by decide +kernel
theorem dL_law_778 : decode cL_law 778 = .ok (.iconst 1, 1) := by decide +kernel
theorem dL_law_779 : decode cL_law 779 = .ok (.goto 4, 3) := by decide +kernel
theorem dL_law_782 : decode cL_law 782 = .ok (.iconst 0, 1) := by decide +kernel
theorem dL_law_783 : decode cL_law 783 = .ok (.aload_n 0, 1) := by decide +kernel
theorem dL_law_784 : decode cL_law 784 = .ok (.iload 4, 2) := by decide +kernel
theorem dL_law_786 : decode cL_law 786 = .ok (.iconst 3, 1) := by decide +kernel
theorem dL_law_787 : decode cL_law 787 = .ok (.iadd, 1) := by decide +kernel
theorem dL_law_788 : decode cL_law 788 = .ok (.iaload, 1) := by decide +kernel
theorem dL_law_789 : decode cL_law 789 = .ok (.aload_n 3, 1) := by decide +kernel
theorem dL_law_790 : decode cL_law 790 = .ok (.invokestatic 169, 3) := by decide +kernel
theorem dL_law_793 : decode cL_law 793 = .ok (.istore 5, 2) := by decide +kernel
theorem dL_law_795 : decode cL_law 795 = .ok (.aload_n 2, 1) := by decide +kernel
theorem dL_law_796 : decode cL_law 796 = .ok (.aload_n 0, 1) := by decide +kernel
theorem dL_law_797 : decode cL_law 797 = .ok (.iload 4, 2) := by decide +kernel
theorem dL_law_799 : decode cL_law 799 = .ok (.iconst 1, 1) := by decide +kernel
theorem dL_law_800 : decode cL_law 800 = .ok (.iadd, 1) := by decide +kernel
theorem dL_law_801 : decode cL_law 801 = .ok (.iaload, 1) := by decide +kernel
theorem dL_law_802 : decode cL_law 802 = .ok (.aload_n 0, 1) := by decide +kernel
theorem dL_law_803 : decode cL_law 803 = .ok (.iload 4, 2) := by decide +kernel
theorem dL_law_805 : decode cL_law 805 = .ok (.iconst 2, 1) := by decide +kernel
theorem dL_law_806 : decode cL_law 806 = .ok (.iadd, 1) := by decide +kernel
theorem dL_law_807 : decode cL_law 807 = .ok (.iaload, 1) := by decide +kernel
theorem dL_law_808 : decode cL_law 808 = .ok (.ifCond .eq 7, 3) := by decide +kernel
theorem dL_law_811 : decode cL_law 811 = .ok (.iconst 1, 1) := by decide +kernel
theorem dL_law_812 : decode cL_law 812 = .ok (.goto 4, 3) := by decide +kernel
theorem dL_law_815 : decode cL_law 815 = .ok (.iconst 0, 1) := by decide +kernel
theorem dL_law_816 : decode cL_law 816 = .ok (.aload_n 0, 1) := by decide +kernel
theorem dL_law_817 : decode cL_law 817 = .ok (.iload 4, 2) := by decide +kernel
theorem dL_law_819 : decode cL_law 819 = .ok (.iconst 3, 1) := by decide +kernel
theorem dL_law_820 : decode cL_law 820 = .ok (.iadd, 1) := by decide +kernel
theorem dL_law_821 : decode cL_law 821 = .ok (.iaload, 1) := by decide +kernel
theorem dL_law_822 : decode cL_law 822 = .ok (.invokevirtual 172, 3) := by decide +kernel
theorem dL_law_825 : decode cL_law 825 = .ok (.istore 6, 2) := by decide +kernel
theorem dL_law_827 : decode cL_law 827 = .ok (.aload_n 2, 1) := by decide +kernel
theorem dL_law_828 : decode cL_law 828 = .ok (.invokevirtual 137, 3) := by decide +kernel
theorem dL_law_831 : decode cL_law 831 = .ok (.iload 5, 2) := by decide +kernel
theorem dL_law_833 : decode cL_law 833 = .ok (.if_icmp .eq 5, 3) := by decide +kernel
theorem dL_law_836 : decode cL_law 836 = .ok (.iconst 0, 1) := by decide +kernel
theorem dL_law_837 : decode cL_law 837 = .ok (.ireturn, 1) := by decide +kernel
theorem dL_law_838 : decode cL_law 838 = .ok (.iload 5, 2) := by decide +kernel
theorem dL_law_840 : decode cL_law 840 = .ok (.ifCond .ne 15, 3) := by decide +kernel
theorem dL_law_843 : decode cL_law 843 = .ok (.aload_n 3, 1) := by decide +kernel
theorem dL_law_844 : decode cL_law 844 = .ok (.iconst 0, 1) := by decide +kernel
theorem dL_law_845 : decode cL_law 845 = .ok (.laload, 1) := by decide +kernel
theorem dL_law_846 : decode cL_law 846 = .ok (.iload 6, 2) := by decide +kernel
theorem dL_law_848 : decode cL_law 848 = .ok (.i2l, 1) := by decide +kernel
theorem dL_law_849 : decode cL_law 849 = .ok (.lcmp, 1) := by decide +kernel
theorem dL_law_850 : decode cL_law 850 = .ok (.ifCond .eq 5, 3) := by decide +kernel
theorem dL_law_853 : decode cL_law 853 = .ok (.iconst 0, 1) := by decide +kernel
theorem dL_law_854 : decode cL_law 854 = .ok (.ireturn, 1) := by decide +kernel
theorem dL_law_855 : decode cL_law 855 = .ok (.goto 1943, 3) := by decide +kernel
theorem dL_law_858 : decode cL_law 858 = .ok (.aload_n 1, 1) := by decide +kernel
theorem dL_law_859 : decode cL_law 859 = .ok (.aload_n 0, 1) := by decide +kernel
theorem dL_law_860 : decode cL_law 860 = .ok (.iload 4, 2) := by decide +kernel
theorem dL_law_862 : decode cL_law 862 = .ok (.iconst 1, 1) := by decide +kernel
theorem dL_law_863 : decode cL_law 863 = .ok (.iadd, 1) := by decide +kernel
theorem dL_law_864 : decode cL_law 864 = .ok (.iaload, 1) := by decide +kernel
theorem dL_law_865 : decode cL_law 865 = .ok (.aload_n 0, 1) := by decide +kernel
theorem dL_law_866 : decode cL_law 866 = .ok (.iload 4, 2) := by decide +kernel
theorem dL_law_868 : decode cL_law 868 = .ok (.iconst 2, 1) := by decide +kernel
theorem dL_law_869 : decode cL_law 869 = .ok (.iadd, 1) := by decide +kernel
theorem dL_law_870 : decode cL_law 870 = .ok (.iaload, 1) := by decide +kernel
theorem dL_law_871 : decode cL_law 871 = .ok (.aload_n 0, 1) := by decide +kernel
theorem dL_law_872 : decode cL_law 872 = .ok (.iload 4, 2) := by decide +kernel
theorem dL_law_874 : decode cL_law 874 = .ok (.iconst 3, 1) := by decide +kernel
theorem dL_law_875 : decode cL_law 875 = .ok (.iadd, 1) := by decide +kernel
theorem dL_law_876 : decode cL_law 876 = .ok (.iaload, 1) := by decide +kernel
theorem dL_law_877 : decode cL_law 877 = .ok (.ifCond .eq 7, 3) := by decide +kernel
theorem dL_law_880 : decode cL_law 880 = .ok (.iconst 1, 1) := by decide +kernel
theorem dL_law_881 : decode cL_law 881 = .ok (.goto 4, 3) := by decide +kernel
theorem dL_law_884 : decode cL_law 884 = .ok (.iconst 0, 1) := by decide +kernel
theorem dL_law_885 : decode cL_law 885 = .ok (.aload_n 3, 1) := by decide +kernel
theorem dL_law_886 : decode cL_law 886 = .ok (.invokestatic 173, 3) := by decide +kernel
theorem dL_law_889 : decode cL_law 889 = .ok (.istore 5, 2) := by decide +kernel
theorem dL_law_891 : decode cL_law 891 = .ok (.aload_n 2, 1) := by decide +kernel
theorem dL_law_892 : decode cL_law 892 = .ok (.aload_n 0, 1) := by decide +kernel
theorem dL_law_893 : decode cL_law 893 = .ok (.iload 4, 2) := by decide +kernel
theorem dL_law_895 : decode cL_law 895 = .ok (.iconst 1, 1) := by decide +kernel
theorem dL_law_896 : decode cL_law 896 = .ok (.iadd, 1) := by decide +kernel
theorem dL_law_897 : decode cL_law 897 = .ok (.iaload, 1) := by decide +kernel
theorem dL_law_898 : decode cL_law 898 = .ok (.aload_n 0, 1) := by decide +kernel
theorem dL_law_899 : decode cL_law 899 = .ok (.iload 4, 2) := by decide +kernel
theorem dL_law_901 : decode cL_law 901 = .ok (.iconst 2, 1) := by decide +kernel
theorem dL_law_902 : decode cL_law 902 = .ok (.iadd, 1) := by decide +kernel
theorem dL_law_903 : decode cL_law 903 = .ok (.iaload, 1) := by decide +kernel
theorem dL_law_904 : decode cL_law 904 = .ok (.aload_n 0, 1) := by decide +kernel
theorem dL_law_905 : decode cL_law 905 = .ok (.iload 4, 2) := by decide +kernel
theorem dL_law_907 : decode cL_law 907 = .ok (.iconst 3, 1) := by decide +kernel
theorem dL_law_908 : decode cL_law 908 = .ok (.iadd, 1) := by decide +kernel
theorem dL_law_909 : decode cL_law 909 = .ok (.iaload, 1) := by decide +kernel
theorem dL_law_910 : decode cL_law 910 = .ok (.ifCond .eq 7, 3) := by decide +kernel
theorem dL_law_913 : decode cL_law 913 = .ok (.iconst 1, 1) := by decide +kernel
theorem dL_law_914 : decode cL_law 914 = .ok (.goto 4, 3) := by decide +kernel
theorem dL_law_917 : decode cL_law 917 = .ok (.iconst 0, 1) := by decide +kernel
theorem dL_law_918 : decode cL_law 918 = .ok (.invokevirtual 175, 3) := by decide +kernel
theorem dL_law_921 : decode cL_law 921 = .ok (.istore 6, 2) := by decide +kernel
theorem dL_law_923 : decode cL_law 923 = .ok (.aload_n 2, 1) := by decide +kernel
theorem dL_law_924 : decode cL_law 924 = .ok (.invokevirtual 137, 3) := by decide +kernel
theorem dL_law_927 : decode cL_law 927 = .ok (.iload 5, 2) := by decide +kernel
theorem dL_law_929 : decode cL_law 929 = .ok (.if_icmp .eq 5, 3) := by decide +kernel
theorem dL_law_932 : decode cL_law 932 = .ok (.iconst 0, 1) := by decide +kernel
