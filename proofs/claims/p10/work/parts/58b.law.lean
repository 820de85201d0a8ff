/-! laid by wip/hand/lw.py: cases of the law -/
theorem te_368_590 : (pT M_368).find? (fun e => e.1 == 590) = some (590, .aload_n 1, 0, 0) := (sk_22 590 rfl).trans rfl
theorem te_368_591 : (pT M_368).find? (fun e => e.1 == 591) = some (591, .aload_n 0, 0, 0) := (sk_22 591 rfl).trans rfl
theorem te_368_592 : (pT M_368).find? (fun e => e.1 == 592) = some (592, .iload 4, 0, 0) := (sk_22 592 rfl).trans rfl
theorem te_368_594 : (pT M_368).find? (fun e => e.1 == 594) = some (594, .iconst 1, 0, 0) := (sk_22 594 rfl).trans rfl
theorem te_368_595 : (pT M_368).find? (fun e => e.1 == 595) = some (595, .iadd, 0, 0) := (sk_22 595 rfl).trans rfl
theorem te_368_596 : (pT M_368).find? (fun e => e.1 == 596) = some (596, .iaload, 0, 0) := (sk_22 596 rfl).trans rfl
theorem te_368_597 : (pT M_368).find? (fun e => e.1 == 597) = some (597, .aload_n 0, 0, 0) := (sk_23 597 rfl).trans rfl
theorem te_368_598 : (pT M_368).find? (fun e => e.1 == 598) = some (598, .iload 4, 0, 0) := (sk_23 598 rfl).trans rfl
theorem te_368_600 : (pT M_368).find? (fun e => e.1 == 600) = some (600, .iconst 2, 0, 0) := (sk_23 600 rfl).trans rfl
theorem te_368_601 : (pT M_368).find? (fun e => e.1 == 601) = some (601, .iadd, 0, 0) := (sk_23 601 rfl).trans rfl
theorem te_368_602 : (pT M_368).find? (fun e => e.1 == 602) = some (602, .iaload, 0, 0) := (sk_23 602 rfl).trans rfl
theorem te_368_603 : (pT M_368).find? (fun e => e.1 == 603) = some (603, .aload_n 3, 0, 0) := (sk_23 603 rfl).trans rfl
theorem te_368_604 : (pT M_368).find? (fun e => e.1 == 604) = some (604, .invokestatic 203, 64, 8) := (sk_23 604 rfl).trans rfl
theorem te_368_607 : (pT M_368).find? (fun e => e.1 == 607) = some (607, .istore 5, 0, 0) := (sk_23 607 rfl).trans rfl
theorem te_368_609 : (pT M_368).find? (fun e => e.1 == 609) = some (609, .aload_n 2, 0, 0) := (sk_23 609 rfl).trans rfl
theorem te_368_610 : (pT M_368).find? (fun e => e.1 == 610) = some (610, .aload_n 0, 0, 0) := (sk_23 610 rfl).trans rfl
theorem te_368_611 : (pT M_368).find? (fun e => e.1 == 611) = some (611, .iload 4, 0, 0) := (sk_23 611 rfl).trans rfl
theorem te_368_613 : (pT M_368).find? (fun e => e.1 == 613) = some (613, .iconst 1, 0, 0) := (sk_23 613 rfl).trans rfl
theorem te_368_614 : (pT M_368).find? (fun e => e.1 == 614) = some (614, .iadd, 0, 0) := (sk_24 614 rfl).trans rfl
theorem te_368_615 : (pT M_368).find? (fun e => e.1 == 615) = some (615, .iaload, 0, 0) := (sk_24 615 rfl).trans rfl
theorem te_368_616 : (pT M_368).find? (fun e => e.1 == 616) = some (616, .aload_n 0, 0, 0) := (sk_24 616 rfl).trans rfl
theorem te_368_617 : (pT M_368).find? (fun e => e.1 == 617) = some (617, .iload 4, 0, 0) := (sk_24 617 rfl).trans rfl
theorem te_368_619 : (pT M_368).find? (fun e => e.1 == 619) = some (619, .iconst 2, 0, 0) := (sk_24 619 rfl).trans rfl
theorem te_368_620 : (pT M_368).find? (fun e => e.1 == 620) = some (620, .iadd, 0, 0) := (sk_24 620 rfl).trans rfl
theorem te_368_621 : (pT M_368).find? (fun e => e.1 == 621) = some (621, .iaload, 0, 0) := (sk_24 621 rfl).trans rfl
theorem te_368_622 : (pT M_368).find? (fun e => e.1 == 622) = some (622, .invokevirtual 205, 238, 0) := (sk_24 622 rfl).trans rfl
theorem te_368_625 : (pT M_368).find? (fun e => e.1 == 625) = some (625, .istore 6, 0, 0) := (sk_24 625 rfl).trans rfl
theorem te_368_627 : (pT M_368).find? (fun e => e.1 == 627) = some (627, .goto 1689, 0, 0) := (sk_24 627 rfl).trans rfl
theorem te_368_643 : (pT M_368).find? (fun e => e.1 == 643) = some (643, .aload_n 1, 0, 0) := (sk_25 643 rfl).trans rfl
theorem te_368_644 : (pT M_368).find? (fun e => e.1 == 644) = some (644, .aload_n 0, 0, 0) := (sk_25 644 rfl).trans rfl
theorem te_368_645 : (pT M_368).find? (fun e => e.1 == 645) = some (645, .iload 4, 0, 0) := (sk_25 645 rfl).trans rfl
theorem te_368_647 : (pT M_368).find? (fun e => e.1 == 647) = some (647, .iconst 1, 0, 0) := (sk_25 647 rfl).trans rfl
theorem te_368_648 : (pT M_368).find? (fun e => e.1 == 648) = some (648, .iadd, 0, 0) := (sk_25 648 rfl).trans rfl
theorem te_368_649 : (pT M_368).find? (fun e => e.1 == 649) = some (649, .iaload, 0, 0) := (sk_25 649 rfl).trans rfl
theorem te_368_650 : (pT M_368).find? (fun e => e.1 == 650) = some (650, .aload_n 0, 0, 0) := (sk_25 650 rfl).trans rfl
theorem te_368_651 : (pT M_368).find? (fun e => e.1 == 651) = some (651, .iload 4, 0, 0) := (sk_26 651 rfl).trans rfl
theorem te_368_653 : (pT M_368).find? (fun e => e.1 == 653) = some (653, .iconst 2, 0, 0) := (sk_26 653 rfl).trans rfl
theorem te_368_654 : (pT M_368).find? (fun e => e.1 == 654) = some (654, .iadd, 0, 0) := (sk_26 654 rfl).trans rfl
theorem te_368_655 : (pT M_368).find? (fun e => e.1 == 655) = some (655, .iaload, 0, 0) := (sk_26 655 rfl).trans rfl
theorem te_368_656 : (pT M_368).find? (fun e => e.1 == 656) = some (656, .aload_n 3, 0, 0) := (sk_26 656 rfl).trans rfl
theorem te_368_657 : (pT M_368).find? (fun e => e.1 == 657) = some (657, .invokestatic 211, 67, 8) := (sk_26 657 rfl).trans rfl
theorem te_368_660 : (pT M_368).find? (fun e => e.1 == 660) = some (660, .istore 5, 0, 0) := (sk_26 660 rfl).trans rfl
theorem te_368_662 : (pT M_368).find? (fun e => e.1 == 662) = some (662, .aload_n 2, 0, 0) := (sk_26 662 rfl).trans rfl
theorem te_368_663 : (pT M_368).find? (fun e => e.1 == 663) = some (663, .aload_n 0, 0, 0) := (sk_26 663 rfl).trans rfl
theorem te_368_664 : (pT M_368).find? (fun e => e.1 == 664) = some (664, .iload 4, 0, 0) := (sk_26 664 rfl).trans rfl
theorem te_368_666 : (pT M_368).find? (fun e => e.1 == 666) = some (666, .iconst 1, 0, 0) := (sk_26 666 rfl).trans rfl
theorem te_368_667 : (pT M_368).find? (fun e => e.1 == 667) = some (667, .iadd, 0, 0) := (sk_26 667 rfl).trans rfl
theorem te_368_668 : (pT M_368).find? (fun e => e.1 == 668) = some (668, .iaload, 0, 0) := (sk_27 668 rfl).trans rfl
theorem te_368_669 : (pT M_368).find? (fun e => e.1 == 669) = some (669, .aload_n 0, 0, 0) := (sk_27 669 rfl).trans rfl
theorem te_368_670 : (pT M_368).find? (fun e => e.1 == 670) = some (670, .iload 4, 0, 0) := (sk_27 670 rfl).trans rfl
theorem te_368_672 : (pT M_368).find? (fun e => e.1 == 672) = some (672, .iconst 2, 0, 0) := (sk_27 672 rfl).trans rfl
theorem te_368_673 : (pT M_368).find? (fun e => e.1 == 673) = some (673, .iadd, 0, 0) := (sk_27 673 rfl).trans rfl
theorem te_368_674 : (pT M_368).find? (fun e => e.1 == 674) = some (674, .iaload, 0, 0) := (sk_27 674 rfl).trans rfl
theorem te_368_675 : (pT M_368).find? (fun e => e.1 == 675) = some (675, .invokevirtual 213, 244, 0) := (sk_27 675 rfl).trans rfl
theorem te_368_678 : (pT M_368).find? (fun e => e.1 == 678) = some (678, .istore 6, 0, 0) := (sk_27 678 rfl).trans rfl
theorem te_368_680 : (pT M_368).find? (fun e => e.1 == 680) = some (680, .goto 1636, 0, 0) := (sk_27 680 rfl).trans rfl
theorem te_368_683 : (pT M_368).find? (fun e => e.1 == 683) = some (683, .aload_n 1, 0, 0) := (sk_27 683 rfl).trans rfl
theorem te_368_684 : (pT M_368).find? (fun e => e.1 == 684) = some (684, .aload_n 0, 0, 0) := (sk_27 684 rfl).trans rfl
theorem te_368_685 : (pT M_368).find? (fun e => e.1 == 685) = some (685, .iload 4, 0, 0) := (sk_27 685 rfl).trans rfl
theorem te_368_687 : (pT M_368).find? (fun e => e.1 == 687) = some (687, .iconst 1, 0, 0) := (sk_28 687 rfl).trans rfl
theorem te_368_688 : (pT M_368).find? (fun e => e.1 == 688) = some (688, .iadd, 0, 0) := (sk_28 688 rfl).trans rfl
theorem te_368_689 : (pT M_368).find? (fun e => e.1 == 689) = some (689, .iaload, 0, 0) := (sk_28 689 rfl).trans rfl
theorem te_368_690 : (pT M_368).find? (fun e => e.1 == 690) = some (690, .aload_n 0, 0, 0) := (sk_28 690 rfl).trans rfl
theorem te_368_691 : (pT M_368).find? (fun e => e.1 == 691) = some (691, .iload 4, 0, 0) := (sk_28 691 rfl).trans rfl
theorem te_368_693 : (pT M_368).find? (fun e => e.1 == 693) = some (693, .iconst 2, 0, 0) := (sk_28 693 rfl).trans rfl
theorem te_368_694 : (pT M_368).find? (fun e => e.1 == 694) = some (694, .iadd, 0, 0) := (sk_28 694 rfl).trans rfl
theorem te_368_695 : (pT M_368).find? (fun e => e.1 == 695) = some (695, .iaload, 0, 0) := (sk_28 695 rfl).trans rfl
theorem te_368_696 : (pT M_368).find? (fun e => e.1 == 696) = some (696, .aload_n 0, 0, 0) := (sk_28 696 rfl).trans rfl
theorem te_368_697 : (pT M_368).find? (fun e => e.1 == 697) = some (697, .iload 4, 0, 0) := (sk_28 697 rfl).trans rfl
theorem te_368_699 : (pT M_368).find? (fun e => e.1 == 699) = some (699, .iconst 3, 0, 0) := (sk_28 699 rfl).trans rfl
theorem te_368_700 : (pT M_368).find? (fun e => e.1 == 700) = some (700, .iadd, 0, 0) := (sk_28 700 rfl).trans rfl
theorem te_368_701 : (pT M_368).find? (fun e => e.1 == 701) = some (701, .iaload, 0, 0) := (sk_29 701 rfl).trans rfl
theorem te_368_702 : (pT M_368).find? (fun e => e.1 == 702) = some (702, .aload_n 3, 0, 0) := (sk_29 702 rfl).trans rfl
theorem te_368_703 : (pT M_368).find? (fun e => e.1 == 703) = some (703, .invokestatic 214, 71, 8) := (sk_29 703 rfl).trans rfl
theorem te_368_706 : (pT M_368).find? (fun e => e.1 == 706) = some (706, .istore 5, 0, 0) := (sk_29 706 rfl).trans rfl
theorem te_368_708 : (pT M_368).find? (fun e => e.1 == 708) = some (708, .aload_n 2, 0, 0) := (sk_29 708 rfl).trans rfl
theorem te_368_709 : (pT M_368).find? (fun e => e.1 == 709) = some (709, .aload_n 0, 0, 0) := (sk_29 709 rfl).trans rfl
theorem te_368_710 : (pT M_368).find? (fun e => e.1 == 710) = some (710, .iload 4, 0, 0) := (sk_29 710 rfl).trans rfl
theorem te_368_712 : (pT M_368).find? (fun e => e.1 == 712) = some (712, .iconst 1, 0, 0) := (sk_29 712 rfl).trans rfl
theorem te_368_713 : (pT M_368).find? (fun e => e.1 == 713) = some (713, .iadd, 0, 0) := (sk_29 713 rfl).trans rfl
theorem te_368_714 : (pT M_368).find? (fun e => e.1 == 714) = some (714, .iaload, 0, 0) := (sk_29 714 rfl).trans rfl
theorem te_368_715 : (pT M_368).find? (fun e => e.1 == 715) = some (715, .aload_n 0, 0, 0) := (sk_29 715 rfl).trans rfl
theorem te_368_716 : (pT M_368).find? (fun e => e.1 == 716) = some (716, .iload 4, 0, 0) := (sk_29 716 rfl).trans rfl
theorem te_368_718 : (pT M_368).find? (fun e => e.1 == 718) = some (718, .iconst 2, 0, 0) := (sk_30 718 rfl).trans rfl
theorem te_368_719 : (pT M_368).find? (fun e => e.1 == 719) = some (719, .iadd, 0, 0) := (sk_30 719 rfl).trans rfl
theorem te_368_720 : (pT M_368).find? (fun e => e.1 == 720) = some (720, .iaload, 0, 0) := (sk_30 720 rfl).trans rfl
theorem te_368_721 : (pT M_368).find? (fun e => e.1 == 721) = some (721, .aload_n 0, 0, 0) := (sk_30 721 rfl).trans rfl
theorem te_368_722 : (pT M_368).find? (fun e => e.1 == 722) = some (722, .iload 4, 0, 0) := (sk_30 722 rfl).trans rfl
theorem te_368_724 : (pT M_368).find? (fun e => e.1 == 724) = some (724, .iconst 3, 0, 0) := (sk_30 724 rfl).trans rfl
theorem te_368_725 : (pT M_368).find? (fun e => e.1 == 725) = some (725, .iadd, 0, 0) := (sk_30 725 rfl).trans rfl
theorem te_368_726 : (pT M_368).find? (fun e => e.1 == 726) = some (726, .iaload, 0, 0) := (sk_30 726 rfl).trans rfl
theorem te_368_727 : (pT M_368).find? (fun e => e.1 == 727) = some (727, .invokevirtual 217, 252, 0) := (sk_30 727 rfl).trans rfl
theorem te_368_730 : (pT M_368).find? (fun e => e.1 == 730) = some (730, .istore 6, 0, 0) := (sk_30 730 rfl).trans rfl
theorem te_368_732 : (pT M_368).find? (fun e => e.1 == 732) = some (732, .goto 1584, 0, 0) := (sk_30 732 rfl).trans rfl
theorem te_368_735 : (pT M_368).find? (fun e => e.1 == 735) = some (735, .aload_n 1, 0, 0) := (sk_30 735 rfl).trans rfl
theorem te_368_736 : (pT M_368).find? (fun e => e.1 == 736) = some (736, .aload_n 0, 0, 0) := (sk_31 736 rfl).trans rfl
theorem te_368_737 : (pT M_368).find? (fun e => e.1 == 737) = some (737, .iload 4, 0, 0) := (sk_31 737 rfl).trans rfl
theorem te_368_739 : (pT M_368).find? (fun e => e.1 == 739) = some (739, .iconst 1, 0, 0) := (sk_31 739 rfl).trans rfl
theorem te_368_740 : (pT M_368).find? (fun e => e.1 == 740) = some (740, .iadd, 0, 0) := (sk_31 740 rfl).trans rfl
theorem te_368_741 : (pT M_368).find? (fun e => e.1 == 741) = some (741, .iaload, 0, 0) := (sk_31 741 rfl).trans rfl
theorem te_368_742 : (pT M_368).find? (fun e => e.1 == 742) = some (742, .aload_n 0, 0, 0) := (sk_31 742 rfl).trans rfl
theorem te_368_743 : (pT M_368).find? (fun e => e.1 == 743) = some (743, .iload 4, 0, 0) := (sk_31 743 rfl).trans rfl
theorem te_368_745 : (pT M_368).find? (fun e => e.1 == 745) = some (745, .iconst 2, 0, 0) := (sk_31 745 rfl).trans rfl
theorem te_368_746 : (pT M_368).find? (fun e => e.1 == 746) = some (746, .iadd, 0, 0) := (sk_31 746 rfl).trans rfl
theorem te_368_747 : (pT M_368).find? (fun e => e.1 == 747) = some (747, .iaload, 0, 0) := (sk_31 747 rfl).trans rfl
theorem te_368_748 : (pT M_368).find? (fun e => e.1 == 748) = some (748, .aload_n 3, 0, 0) := (sk_31 748 rfl).trans rfl
theorem te_368_749 : (pT M_368).find? (fun e => e.1 == 749) = some (749, .invokestatic 218, 78, 8) := (sk_31 749 rfl).trans rfl
theorem te_368_752 : (pT M_368).find? (fun e => e.1 == 752) = some (752, .istore 5, 0, 0) := (sk_32 752 rfl).trans rfl
theorem te_368_754 : (pT M_368).find? (fun e => e.1 == 754) = some (754, .aload_n 2, 0, 0) := (sk_32 754 rfl).trans rfl
theorem te_368_755 : (pT M_368).find? (fun e => e.1 == 755) = some (755, .aload_n 0, 0, 0) := (sk_32 755 rfl).trans rfl
theorem te_368_756 : (pT M_368).find? (fun e => e.1 == 756) = some (756, .iload 4, 0, 0) := (sk_32 756 rfl).trans rfl
theorem te_368_758 : (pT M_368).find? (fun e => e.1 == 758) = some (758, .iconst 1, 0, 0) := (sk_32 758 rfl).trans rfl
theorem te_368_759 : (pT M_368).find? (fun e => e.1 == 759) = some (759, .iadd, 0, 0) := (sk_32 759 rfl).trans rfl
theorem te_368_760 : (pT M_368).find? (fun e => e.1 == 760) = some (760, .iaload, 0, 0) := (sk_32 760 rfl).trans rfl
theorem te_368_761 : (pT M_368).find? (fun e => e.1 == 761) = some (761, .aload_n 0, 0, 0) := (sk_32 761 rfl).trans rfl
theorem te_368_762 : (pT M_368).find? (fun e => e.1 == 762) = some (762, .iload 4, 0, 0) := (sk_32 762 rfl).trans rfl
theorem te_368_764 : (pT M_368).find? (fun e => e.1 == 764) = some (764, .iconst 2, 0, 0) := (sk_32 764 rfl).trans rfl
theorem te_368_765 : (pT M_368).find? (fun e => e.1 == 765) = some (765, .iadd, 0, 0) := (sk_32 765 rfl).trans rfl
theorem te_368_766 : (pT M_368).find? (fun e => e.1 == 766) = some (766, .iaload, 0, 0) := (sk_32 766 rfl).trans rfl
theorem te_368_767 : (pT M_368).find? (fun e => e.1 == 767) = some (767, .invokevirtual 220, 260, 0) := (sk_33 767 rfl).trans rfl
theorem te_368_770 : (pT M_368).find? (fun e => e.1 == 770) = some (770, .istore 6, 0, 0) := (sk_33 770 rfl).trans rfl
theorem te_368_772 : (pT M_368).find? (fun e => e.1 == 772) = some (772, .goto 1544, 0, 0) := (sk_33 772 rfl).trans rfl
theorem te_368_775 : (pT M_368).find? (fun e => e.1 == 775) = some (775, .aload_n 1, 0, 0) := (sk_33 775 rfl).trans rfl
theorem te_368_776 : (pT M_368).find? (fun e => e.1 == 776) = some (776, .aload_n 0, 0, 0) := (sk_33 776 rfl).trans rfl
theorem te_368_777 : (pT M_368).find? (fun e => e.1 == 777) = some (777, .iload 4, 0, 0) := (sk_33 777 rfl).trans rfl
theorem te_368_779 : (pT M_368).find? (fun e => e.1 == 779) = some (779, .iconst 1, 0, 0) := (sk_33 779 rfl).trans rfl
theorem te_368_780 : (pT M_368).find? (fun e => e.1 == 780) = some (780, .iadd, 0, 0) := (sk_33 780 rfl).trans rfl
theorem te_368_781 : (pT M_368).find? (fun e => e.1 == 781) = some (781, .iaload, 0, 0) := (sk_33 781 rfl).trans rfl
theorem te_368_782 : (pT M_368).find? (fun e => e.1 == 782) = some (782, .aload_n 3, 0, 0) := (sk_33 782 rfl).trans rfl
theorem te_368_783 : (pT M_368).find? (fun e => e.1 == 783) = some (783, .invokestatic 221, 81, 8) := (sk_33 783 rfl).trans rfl
theorem te_368_786 : (pT M_368).find? (fun e => e.1 == 786) = some (786, .istore 5, 0, 0) := (sk_33 786 rfl).trans rfl
theorem te_368_788 : (pT M_368).find? (fun e => e.1 == 788) = some (788, .aload_n 2, 0, 0) := (sk_34 788 rfl).trans rfl
theorem te_368_789 : (pT M_368).find? (fun e => e.1 == 789) = some (789, .aload_n 0, 0, 0) := (sk_34 789 rfl).trans rfl
theorem te_368_790 : (pT M_368).find? (fun e => e.1 == 790) = some (790, .iload 4, 0, 0) := (sk_34 790 rfl).trans rfl
theorem te_368_792 : (pT M_368).find? (fun e => e.1 == 792) = some (792, .iconst 1, 0, 0) := (sk_34 792 rfl).trans rfl
theorem te_368_793 : (pT M_368).find? (fun e => e.1 == 793) = some (793, .iadd, 0, 0) := (sk_34 793 rfl).trans rfl
theorem te_368_794 : (pT M_368).find? (fun e => e.1 == 794) = some (794, .iaload, 0, 0) := (sk_34 794 rfl).trans rfl
theorem te_368_795 : (pT M_368).find? (fun e => e.1 == 795) = some (795, .invokevirtual 224, 262, 0) := (sk_34 795 rfl).trans rfl
theorem te_368_798 : (pT M_368).find? (fun e => e.1 == 798) = some (798, .istore 6, 0, 0) := (sk_34 798 rfl).trans rfl
theorem te_368_800 : (pT M_368).find? (fun e => e.1 == 800) = some (800, .goto 1516, 0, 0) := (sk_34 800 rfl).trans rfl
theorem te_368_803 : (pT M_368).find? (fun e => e.1 == 803) = some (803, .aload_n 1, 0, 0) := (sk_34 803 rfl).trans rfl
theorem te_368_804 : (pT M_368).find? (fun e => e.1 == 804) = some (804, .aload_n 0, 0, 0) := (sk_34 804 rfl).trans rfl
theorem te_368_805 : (pT M_368).find? (fun e => e.1 == 805) = some (805, .iload 4, 0, 0) := (sk_34 805 rfl).trans rfl
theorem te_368_807 : (pT M_368).find? (fun e => e.1 == 807) = some (807, .iconst 1, 0, 0) := (sk_35 807 rfl).trans rfl
theorem te_368_808 : (pT M_368).find? (fun e => e.1 == 808) = some (808, .iadd, 0, 0) := (sk_35 808 rfl).trans rfl
theorem te_368_809 : (pT M_368).find? (fun e => e.1 == 809) = some (809, .iaload, 0, 0) := (sk_35 809 rfl).trans rfl
theorem te_368_810 : (pT M_368).find? (fun e => e.1 == 810) = some (810, .aload_n 3, 0, 0) := (sk_35 810 rfl).trans rfl
theorem te_368_811 : (pT M_368).find? (fun e => e.1 == 811) = some (811, .invokestatic 225, 83, 8) := (sk_35 811 rfl).trans rfl
theorem te_368_814 : (pT M_368).find? (fun e => e.1 == 814) = some (814, .istore 5, 0, 0) := (sk_35 814 rfl).trans rfl
theorem te_368_816 : (pT M_368).find? (fun e => e.1 == 816) = some (816, .aload_n 2, 0, 0) := (sk_35 816 rfl).trans rfl
theorem te_368_817 : (pT M_368).find? (fun e => e.1 == 817) = some (817, .aload_n 0, 0, 0) := (sk_35 817 rfl).trans rfl
theorem te_368_818 : (pT M_368).find? (fun e => e.1 == 818) = some (818, .iload 4, 0, 0) := (sk_35 818 rfl).trans rfl
theorem te_368_820 : (pT M_368).find? (fun e => e.1 == 820) = some (820, .iconst 1, 0, 0) := (sk_35 820 rfl).trans rfl
theorem te_368_821 : (pT M_368).find? (fun e => e.1 == 821) = some (821, .iadd, 0, 0) := (sk_35 821 rfl).trans rfl
theorem te_368_822 : (pT M_368).find? (fun e => e.1 == 822) = some (822, .iaload, 0, 0) := (sk_35 822 rfl).trans rfl
theorem te_368_823 : (pT M_368).find? (fun e => e.1 == 823) = some (823, .invokevirtual 227, 267, 0) := (sk_36 823 rfl).trans rfl
theorem te_368_826 : (pT M_368).find? (fun e => e.1 == 826) = some (826, .istore 6, 0, 0) := (sk_36 826 rfl).trans rfl
theorem te_368_828 : (pT M_368).find? (fun e => e.1 == 828) = some (828, .goto 1488, 0, 0) := (sk_36 828 rfl).trans rfl
theorem te_368_831 : (pT M_368).find? (fun e => e.1 == 831) = some (831, .aload_n 1, 0, 0) := (sk_36 831 rfl).trans rfl
theorem te_368_832 : (pT M_368).find? (fun e => e.1 == 832) = some (832, .aload_n 3, 0, 0) := (sk_36 832 rfl).trans rfl
theorem te_368_833 : (pT M_368).find? (fun e => e.1 == 833) = some (833, .invokestatic 228, 111, 8) := (sk_36 833 rfl).trans rfl
theorem te_368_836 : (pT M_368).find? (fun e => e.1 == 836) = some (836, .istore 5, 0, 0) := (sk_36 836 rfl).trans rfl
theorem te_368_838 : (pT M_368).find? (fun e => e.1 == 838) = some (838, .aload_n 2, 0, 0) := (sk_36 838 rfl).trans rfl
theorem te_368_839 : (pT M_368).find? (fun e => e.1 == 839) = some (839, .invokevirtual 230, 277, 0) := (sk_36 839 rfl).trans rfl
theorem te_368_842 : (pT M_368).find? (fun e => e.1 == 842) = some (842, .istore 6, 0, 0) := (sk_36 842 rfl).trans rfl
theorem te_368_844 : (pT M_368).find? (fun e => e.1 == 844) = some (844, .goto 1472, 0, 0) := (sk_36 844 rfl).trans rfl
theorem te_368_847 : (pT M_368).find? (fun e => e.1 == 847) = some (847, .aload_n 1, 0, 0) := (sk_36 847 rfl).trans rfl
theorem te_368_848 : (pT M_368).find? (fun e => e.1 == 848) = some (848, .aload_n 0, 0, 0) := (sk_37 848 rfl).trans rfl
theorem te_368_849 : (pT M_368).find? (fun e => e.1 == 849) = some (849, .iload 4, 0, 0) := (sk_37 849 rfl).trans rfl
theorem te_368_851 : (pT M_368).find? (fun e => e.1 == 851) = some (851, .iconst 1, 0, 0) := (sk_37 851 rfl).trans rfl
theorem te_368_852 : (pT M_368).find? (fun e => e.1 == 852) = some (852, .iadd, 0, 0) := (sk_37 852 rfl).trans rfl
theorem te_368_853 : (pT M_368).find? (fun e => e.1 == 853) = some (853, .iaload, 0, 0) := (sk_37 853 rfl).trans rfl
theorem te_368_854 : (pT M_368).find? (fun e => e.1 == 854) = some (854, .aload_n 0, 0, 0) := (sk_37 854 rfl).trans rfl
theorem te_368_855 : (pT M_368).find? (fun e => e.1 == 855) = some (855, .iload 4, 0, 0) := (sk_37 855 rfl).trans rfl
theorem te_368_857 : (pT M_368).find? (fun e => e.1 == 857) = some (857, .iconst 2, 0, 0) := (sk_37 857 rfl).trans rfl
theorem te_368_858 : (pT M_368).find? (fun e => e.1 == 858) = some (858, .iadd, 0, 0) := (sk_37 858 rfl).trans rfl
theorem te_368_859 : (pT M_368).find? (fun e => e.1 == 859) = some (859, .iaload, 0, 0) := (sk_37 859 rfl).trans rfl
theorem te_368_860 : (pT M_368).find? (fun e => e.1 == 860) = some (860, .aload_n 3, 0, 0) := (sk_37 860 rfl).trans rfl
theorem te_368_861 : (pT M_368).find? (fun e => e.1 == 861) = some (861, .invokestatic 231, 113, 8) := (sk_37 861 rfl).trans rfl
theorem te_368_864 : (pT M_368).find? (fun e => e.1 == 864) = some (864, .istore 5, 0, 0) := (sk_38 864 rfl).trans rfl
theorem te_368_866 : (pT M_368).find? (fun e => e.1 == 866) = some (866, .aload_n 2, 0, 0) := (sk_38 866 rfl).trans rfl
theorem te_368_867 : (pT M_368).find? (fun e => e.1 == 867) = some (867, .aload_n 0, 0, 0) := (sk_38 867 rfl).trans rfl
theorem te_368_868 : (pT M_368).find? (fun e => e.1 == 868) = some (868, .iload 4, 0, 0) := (sk_38 868 rfl).trans rfl
theorem te_368_870 : (pT M_368).find? (fun e => e.1 == 870) = some (870, .iconst 1, 0, 0) := (sk_38 870 rfl).trans rfl
theorem te_368_871 : (pT M_368).find? (fun e => e.1 == 871) = some (871, .iadd, 0, 0) := (sk_38 871 rfl).trans rfl
theorem te_368_872 : (pT M_368).find? (fun e => e.1 == 872) = some (872, .iaload, 0, 0) := (sk_38 872 rfl).trans rfl
theorem te_368_873 : (pT M_368).find? (fun e => e.1 == 873) = some (873, .aload_n 0, 0, 0) := (sk_38 873 rfl).trans rfl
theorem te_368_874 : (pT M_368).find? (fun e => e.1 == 874) = some (874, .iload 4, 0, 0) := (sk_38 874 rfl).trans rfl
theorem te_368_876 : (pT M_368).find? (fun e => e.1 == 876) = some (876, .iconst 2, 0, 0) := (sk_38 876 rfl).trans rfl
theorem te_368_877 : (pT M_368).find? (fun e => e.1 == 877) = some (877, .iadd, 0, 0) := (sk_38 877 rfl).trans rfl
theorem te_368_878 : (pT M_368).find? (fun e => e.1 == 878) = some (878, .iaload, 0, 0) := (sk_38 878 rfl).trans rfl
theorem te_368_879 : (pT M_368).find? (fun e => e.1 == 879) = some (879, .invokevirtual 233, 278, 0) := (sk_39 879 rfl).trans rfl
theorem te_368_882 : (pT M_368).find? (fun e => e.1 == 882) = some (882, .istore 6, 0, 0) := (sk_39 882 rfl).trans rfl
theorem te_368_884 : (pT M_368).find? (fun e => e.1 == 884) = some (884, .goto 1432, 0, 0) := (sk_39 884 rfl).trans rfl
theorem te_368_887 : (pT M_368).find? (fun e => e.1 == 887) = some (887, .aload_n 1, 0, 0) := (sk_39 887 rfl).trans rfl
theorem te_368_888 : (pT M_368).find? (fun e => e.1 == 888) = some (888, .aload_n 0, 0, 0) := (sk_39 888 rfl).trans rfl
theorem te_368_889 : (pT M_368).find? (fun e => e.1 == 889) = some (889, .iload 4, 0, 0) := (sk_39 889 rfl).trans rfl
theorem te_368_891 : (pT M_368).find? (fun e => e.1 == 891) = some (891, .iconst 1, 0, 0) := (sk_39 891 rfl).trans rfl
theorem te_368_892 : (pT M_368).find? (fun e => e.1 == 892) = some (892, .iadd, 0, 0) := (sk_39 892 rfl).trans rfl
theorem te_368_893 : (pT M_368).find? (fun e => e.1 == 893) = some (893, .iaload, 0, 0) := (sk_39 893 rfl).trans rfl
theorem te_368_894 : (pT M_368).find? (fun e => e.1 == 894) = some (894, .aload_n 0, 0, 0) := (sk_39 894 rfl).trans rfl
theorem te_368_895 : (pT M_368).find? (fun e => e.1 == 895) = some (895, .iload 4, 0, 0) := (sk_39 895 rfl).trans rfl
theorem te_368_897 : (pT M_368).find? (fun e => e.1 == 897) = some (897, .iconst 2, 0, 0) := (sk_39 897 rfl).trans rfl
theorem te_368_898 : (pT M_368).find? (fun e => e.1 == 898) = some (898, .iadd, 0, 0) := (sk_40 898 rfl).trans rfl
theorem te_368_899 : (pT M_368).find? (fun e => e.1 == 899) = some (899, .iaload, 0, 0) := (sk_40 899 rfl).trans rfl
theorem te_368_900 : (pT M_368).find? (fun e => e.1 == 900) = some (900, .aload_n 0, 0, 0) := (sk_40 900 rfl).trans rfl
theorem te_368_901 : (pT M_368).find? (fun e => e.1 == 901) = some (901, .iload 4, 0, 0) := (sk_40 901 rfl).trans rfl
theorem te_368_903 : (pT M_368).find? (fun e => e.1 == 903) = some (903, .iconst 3, 0, 0) := (sk_40 903 rfl).trans rfl
theorem te_368_904 : (pT M_368).find? (fun e => e.1 == 904) = some (904, .iadd, 0, 0) := (sk_40 904 rfl).trans rfl
theorem te_368_905 : (pT M_368).find? (fun e => e.1 == 905) = some (905, .iaload, 0, 0) := (sk_40 905 rfl).trans rfl
theorem te_368_906 : (pT M_368).find? (fun e => e.1 == 906) = some (906, .aload_n 3, 0, 0) := (sk_40 906 rfl).trans rfl
theorem te_368_907 : (pT M_368).find? (fun e => e.1 == 907) = some (907, .invokestatic 234, 116, 8) := (sk_40 907 rfl).trans rfl
theorem te_368_910 : (pT M_368).find? (fun e => e.1 == 910) = some (910, .istore 5, 0, 0) := (sk_40 910 rfl).trans rfl
theorem te_368_912 : (pT M_368).find? (fun e => e.1 == 912) = some (912, .aload_n 2, 0, 0) := (sk_40 912 rfl).trans rfl
theorem te_368_913 : (pT M_368).find? (fun e => e.1 == 913) = some (913, .aload_n 0, 0, 0) := (sk_40 913 rfl).trans rfl
theorem te_368_914 : (pT M_368).find? (fun e => e.1 == 914) = some (914, .iload 4, 0, 0) := (sk_41 914 rfl).trans rfl
theorem te_368_916 : (pT M_368).find? (fun e => e.1 == 916) = some (916, .iconst 1, 0, 0) := (sk_41 916 rfl).trans rfl
theorem te_368_917 : (pT M_368).find? (fun e => e.1 == 917) = some (917, .iadd, 0, 0) := (sk_41 917 rfl).trans rfl
theorem te_368_918 : (pT M_368).find? (fun e => e.1 == 918) = some (918, .iaload, 0, 0) := (sk_41 918 rfl).trans rfl
theorem te_368_919 : (pT M_368).find? (fun e => e.1 == 919) = some (919, .aload_n 0, 0, 0) := (sk_41 919 rfl).trans rfl
theorem te_368_920 : (pT M_368).find? (fun e => e.1 == 920) = some (920, .iload 4, 0, 0) := (sk_41 920 rfl).trans rfl
theorem te_368_922 : (pT M_368).find? (fun e => e.1 == 922) = some (922, .iconst 2, 0, 0) := (sk_41 922 rfl).trans rfl
theorem te_368_923 : (pT M_368).find? (fun e => e.1 == 923) = some (923, .iadd, 0, 0) := (sk_41 923 rfl).trans rfl
theorem te_368_924 : (pT M_368).find? (fun e => e.1 == 924) = some (924, .iaload, 0, 0) := (sk_41 924 rfl).trans rfl
theorem te_368_925 : (pT M_368).find? (fun e => e.1 == 925) = some (925, .aload_n 0, 0, 0) := (sk_41 925 rfl).trans rfl
theorem te_368_926 : (pT M_368).find? (fun e => e.1 == 926) = some (926, .iload 4, 0, 0) := (sk_41 926 rfl).trans rfl
theorem te_368_928 : (pT M_368).find? (fun e => e.1 == 928) = some (928, .iconst 3, 0, 0) := (sk_41 928 rfl).trans rfl
theorem te_368_929 : (pT M_368).find? (fun e => e.1 == 929) = some (929, .iadd, 0, 0) := (sk_42 929 rfl).trans rfl
theorem te_368_930 : (pT M_368).find? (fun e => e.1 == 930) = some (930, .iaload, 0, 0) := (sk_42 930 rfl).trans rfl
theorem te_368_931 : (pT M_368).find? (fun e => e.1 == 931) = some (931, .invokevirtual 236, 279, 0) := (sk_42 931 rfl).trans rfl
theorem te_368_934 : (pT M_368).find? (fun e => e.1 == 934) = some (934, .istore 6, 0, 0) := (sk_42 934 rfl).trans rfl
theorem te_368_936 : (pT M_368).find? (fun e => e.1 == 936) = some (936, .goto 1380, 0, 0) := (sk_42 936 rfl).trans rfl
theorem te_368_939 : (pT M_368).find? (fun e => e.1 == 939) = some (939, .aload_n 1, 0, 0) := (sk_42 939 rfl).trans rfl
theorem te_368_940 : (pT M_368).find? (fun e => e.1 == 940) = some (940, .aload_n 0, 0, 0) := (sk_42 940 rfl).trans rfl
theorem te_368_941 : (pT M_368).find? (fun e => e.1 == 941) = some (941, .iload 4, 0, 0) := (sk_42 941 rfl).trans rfl
theorem te_368_943 : (pT M_368).find? (fun e => e.1 == 943) = some (943, .iconst 1, 0, 0) := (sk_42 943 rfl).trans rfl
theorem te_368_944 : (pT M_368).find? (fun e => e.1 == 944) = some (944, .iadd, 0, 0) := (sk_42 944 rfl).trans rfl
theorem te_368_945 : (pT M_368).find? (fun e => e.1 == 945) = some (945, .iaload, 0, 0) := (sk_42 945 rfl).trans rfl
theorem te_368_946 : (pT M_368).find? (fun e => e.1 == 946) = some (946, .aload_n 0, 0, 0) := (sk_42 946 rfl).trans rfl
theorem te_368_947 : (pT M_368).find? (fun e => e.1 == 947) = some (947, .iload 4, 0, 0) := (sk_43 947 rfl).trans rfl
theorem te_368_949 : (pT M_368).find? (fun e => e.1 == 949) = some (949, .iconst 2, 0, 0) := (sk_43 949 rfl).trans rfl
theorem te_368_950 : (pT M_368).find? (fun e => e.1 == 950) = some (950, .iadd, 0, 0) := (sk_43 950 rfl).trans rfl
theorem te_368_951 : (pT M_368).find? (fun e => e.1 == 951) = some (951, .iaload, 0, 0) := (sk_43 951 rfl).trans rfl
theorem te_368_952 : (pT M_368).find? (fun e => e.1 == 952) = some (952, .aload_n 3, 0, 0) := (sk_43 952 rfl).trans rfl
theorem te_368_953 : (pT M_368).find? (fun e => e.1 == 953) = some (953, .invokestatic 237, 121, 8) := (sk_43 953 rfl).trans rfl
theorem te_368_956 : (pT M_368).find? (fun e => e.1 == 956) = some (956, .istore 5, 0, 0) := (sk_43 956 rfl).trans rfl
theorem te_368_958 : (pT M_368).find? (fun e => e.1 == 958) = some (958, .aload_n 2, 0, 0) := (sk_43 958 rfl).trans rfl
theorem te_368_959 : (pT M_368).find? (fun e => e.1 == 959) = some (959, .aload_n 0, 0, 0) := (sk_43 959 rfl).trans rfl
theorem te_368_960 : (pT M_368).find? (fun e => e.1 == 960) = some (960, .iload 4, 0, 0) := (sk_43 960 rfl).trans rfl
theorem te_368_962 : (pT M_368).find? (fun e => e.1 == 962) = some (962, .iconst 1, 0, 0) := (sk_43 962 rfl).trans rfl
theorem te_368_963 : (pT M_368).find? (fun e => e.1 == 963) = some (963, .iadd, 0, 0) := (sk_43 963 rfl).trans rfl
theorem te_368_964 : (pT M_368).find? (fun e => e.1 == 964) = some (964, .iaload, 0, 0) := (sk_44 964 rfl).trans rfl
theorem te_368_965 : (pT M_368).find? (fun e => e.1 == 965) = some (965, .aload_n 0, 0, 0) := (sk_44 965 rfl).trans rfl
theorem te_368_966 : (pT M_368).find? (fun e => e.1 == 966) = some (966, .iload 4, 0, 0) := (sk_44 966 rfl).trans rfl
theorem te_368_968 : (pT M_368).find? (fun e => e.1 == 968) = some (968, .iconst 2, 0, 0) := (sk_44 968 rfl).trans rfl
theorem te_368_969 : (pT M_368).find? (fun e => e.1 == 969) = some (969, .iadd, 0, 0) := (sk_44 969 rfl).trans rfl
theorem te_368_970 : (pT M_368).find? (fun e => e.1 == 970) = some (970, .iaload, 0, 0) := (sk_44 970 rfl).trans rfl
theorem te_368_971 : (pT M_368).find? (fun e => e.1 == 971) = some (971, .invokevirtual 239, 280, 0) := (sk_44 971 rfl).trans rfl
theorem te_368_974 : (pT M_368).find? (fun e => e.1 == 974) = some (974, .istore 6, 0, 0) := (sk_44 974 rfl).trans rfl
theorem te_368_976 : (pT M_368).find? (fun e => e.1 == 976) = some (976, .goto 1340, 0, 0) := (sk_44 976 rfl).trans rfl
theorem te_368_979 : (pT M_368).find? (fun e => e.1 == 979) = some (979, .aload_n 1, 0, 0) := (sk_44 979 rfl).trans rfl
theorem te_368_980 : (pT M_368).find? (fun e => e.1 == 980) = some (980, .aload_n 0, 0, 0) := (sk_44 980 rfl).trans rfl
theorem te_368_981 : (pT M_368).find? (fun e => e.1 == 981) = some (981, .iload 4, 0, 0) := (sk_44 981 rfl).trans rfl
theorem te_368_983 : (pT M_368).find? (fun e => e.1 == 983) = some (983, .iconst 1, 0, 0) := (sk_45 983 rfl).trans rfl
theorem te_368_984 : (pT M_368).find? (fun e => e.1 == 984) = some (984, .iadd, 0, 0) := (sk_45 984 rfl).trans rfl
theorem te_368_985 : (pT M_368).find? (fun e => e.1 == 985) = some (985, .iaload, 0, 0) := (sk_45 985 rfl).trans rfl
theorem te_368_986 : (pT M_368).find? (fun e => e.1 == 986) = some (986, .aload_n 3, 0, 0) := (sk_45 986 rfl).trans rfl
theorem te_368_987 : (pT M_368).find? (fun e => e.1 == 987) = some (987, .invokestatic 240, 135, 8) := (sk_45 987 rfl).trans rfl
theorem te_368_990 : (pT M_368).find? (fun e => e.1 == 990) = some (990, .istore 5, 0, 0) := (sk_45 990 rfl).trans rfl
theorem te_368_992 : (pT M_368).find? (fun e => e.1 == 992) = some (992, .aload_n 2, 0, 0) := (sk_45 992 rfl).trans rfl
theorem te_368_993 : (pT M_368).find? (fun e => e.1 == 993) = some (993, .aload_n 0, 0, 0) := (sk_45 993 rfl).trans rfl
theorem te_368_994 : (pT M_368).find? (fun e => e.1 == 994) = some (994, .iload 4, 0, 0) := (sk_45 994 rfl).trans rfl
theorem te_368_996 : (pT M_368).find? (fun e => e.1 == 996) = some (996, .iconst 1, 0, 0) := (sk_45 996 rfl).trans rfl
theorem te_368_997 : (pT M_368).find? (fun e => e.1 == 997) = some (997, .iadd, 0, 0) := (sk_45 997 rfl).trans rfl
theorem te_368_998 : (pT M_368).find? (fun e => e.1 == 998) = some (998, .iaload, 0, 0) := (sk_45 998 rfl).trans rfl
theorem te_368_999 : (pT M_368).find? (fun e => e.1 == 999) = some (999, .invokevirtual 242, 292, 0) := (sk_46 999 rfl).trans rfl
theorem te_368_1002 : (pT M_368).find? (fun e => e.1 == 1002) = some (1002, .istore 6, 0, 0) := (sk_46 1002 rfl).trans rfl
theorem te_368_1004 : (pT M_368).find? (fun e => e.1 == 1004) = some (1004, .goto 1312, 0, 0) := (sk_46 1004 rfl).trans rfl
theorem te_368_1007 : (pT M_368).find? (fun e => e.1 == 1007) = some (1007, .aload_n 1, 0, 0) := (sk_46 1007 rfl).trans rfl
theorem te_368_1008 : (pT M_368).find? (fun e => e.1 == 1008) = some (1008, .aload_n 3, 0, 0) := (sk_46 1008 rfl).trans rfl
theorem te_368_1009 : (pT M_368).find? (fun e => e.1 == 1009) = some (1009, .invokestatic 243, 137, 8) := (sk_46 1009 rfl).trans rfl
theorem te_368_1012 : (pT M_368).find? (fun e => e.1 == 1012) = some (1012, .istore 5, 0, 0) := (sk_46 1012 rfl).trans rfl
theorem te_368_1014 : (pT M_368).find? (fun e => e.1 == 1014) = some (1014, .aload_n 2, 0, 0) := (sk_46 1014 rfl).trans rfl
theorem te_368_1015 : (pT M_368).find? (fun e => e.1 == 1015) = some (1015, .invokevirtual 245, 293, 0) := (sk_46 1015 rfl).trans rfl
theorem te_368_1018 : (pT M_368).find? (fun e => e.1 == 1018) = some (1018, .istore 6, 0, 0) := (sk_46 1018 rfl).trans rfl
theorem te_368_1020 : (pT M_368).find? (fun e => e.1 == 1020) = some (1020, .goto 1296, 0, 0) := (sk_46 1020 rfl).trans rfl
theorem te_368_1023 : (pT M_368).find? (fun e => e.1 == 1023) = some (1023, .aload_n 1, 0, 0) := (sk_46 1023 rfl).trans rfl
theorem te_368_1024 : (pT M_368).find? (fun e => e.1 == 1024) = some (1024, .aload_n 0, 0, 0) := (sk_47 1024 rfl).trans rfl
theorem te_368_1025 : (pT M_368).find? (fun e => e.1 == 1025) = some (1025, .iload 4, 0, 0) := (sk_47 1025 rfl).trans rfl
theorem te_368_1027 : (pT M_368).find? (fun e => e.1 == 1027) = some (1027, .iconst 1, 0, 0) := (sk_47 1027 rfl).trans rfl
theorem te_368_1028 : (pT M_368).find? (fun e => e.1 == 1028) = some (1028, .iadd, 0, 0) := (sk_47 1028 rfl).trans rfl
theorem te_368_1029 : (pT M_368).find? (fun e => e.1 == 1029) = some (1029, .iaload, 0, 0) := (sk_47 1029 rfl).trans rfl
theorem te_368_1030 : (pT M_368).find? (fun e => e.1 == 1030) = some (1030, .aload_n 0, 0, 0) := (sk_47 1030 rfl).trans rfl
theorem te_368_1031 : (pT M_368).find? (fun e => e.1 == 1031) = some (1031, .iload 4, 0, 0) := (sk_47 1031 rfl).trans rfl
theorem te_368_1033 : (pT M_368).find? (fun e => e.1 == 1033) = some (1033, .iconst 2, 0, 0) := (sk_47 1033 rfl).trans rfl
theorem te_368_1034 : (pT M_368).find? (fun e => e.1 == 1034) = some (1034, .iadd, 0, 0) := (sk_47 1034 rfl).trans rfl
theorem te_368_1035 : (pT M_368).find? (fun e => e.1 == 1035) = some (1035, .iaload, 0, 0) := (sk_47 1035 rfl).trans rfl
theorem te_368_1036 : (pT M_368).find? (fun e => e.1 == 1036) = some (1036, .aload_n 3, 0, 0) := (sk_47 1036 rfl).trans rfl
theorem te_368_1037 : (pT M_368).find? (fun e => e.1 == 1037) = some (1037, .invokestatic 246, 139, 8) := (sk_47 1037 rfl).trans rfl
theorem te_368_1040 : (pT M_368).find? (fun e => e.1 == 1040) = some (1040, .istore 5, 0, 0) := (sk_48 1040 rfl).trans rfl
theorem te_368_1042 : (pT M_368).find? (fun e => e.1 == 1042) = some (1042, .aload_n 2, 0, 0) := (sk_48 1042 rfl).trans rfl
theorem te_368_1043 : (pT M_368).find? (fun e => e.1 == 1043) = some (1043, .aload_n 0, 0, 0) := (sk_48 1043 rfl).trans rfl
theorem te_368_1044 : (pT M_368).find? (fun e => e.1 == 1044) = some (1044, .iload 4, 0, 0) := (sk_48 1044 rfl).trans rfl
theorem te_368_1046 : (pT M_368).find? (fun e => e.1 == 1046) = some (1046, .iconst 1, 0, 0) := (sk_48 1046 rfl).trans rfl
theorem te_368_1047 : (pT M_368).find? (fun e => e.1 == 1047) = some (1047, .iadd, 0, 0) := (sk_48 1047 rfl).trans rfl
theorem te_368_1048 : (pT M_368).find? (fun e => e.1 == 1048) = some (1048, .iaload, 0, 0) := (sk_48 1048 rfl).trans rfl
theorem te_368_1049 : (pT M_368).find? (fun e => e.1 == 1049) = some (1049, .aload_n 0, 0, 0) := (sk_48 1049 rfl).trans rfl
theorem te_368_1050 : (pT M_368).find? (fun e => e.1 == 1050) = some (1050, .iload 4, 0, 0) := (sk_48 1050 rfl).trans rfl
theorem te_368_1052 : (pT M_368).find? (fun e => e.1 == 1052) = some (1052, .iconst 2, 0, 0) := (sk_48 1052 rfl).trans rfl
theorem te_368_1053 : (pT M_368).find? (fun e => e.1 == 1053) = some (1053, .iadd, 0, 0) := (sk_48 1053 rfl).trans rfl
theorem te_368_1054 : (pT M_368).find? (fun e => e.1 == 1054) = some (1054, .iaload, 0, 0) := (sk_48 1054 rfl).trans rfl
theorem te_368_1055 : (pT M_368).find? (fun e => e.1 == 1055) = some (1055, .invokevirtual 248, 294, 0) := (sk_49 1055 rfl).trans rfl
theorem te_368_1058 : (pT M_368).find? (fun e => e.1 == 1058) = some (1058, .istore 6, 0, 0) := (sk_49 1058 rfl).trans rfl
theorem te_368_1060 : (pT M_368).find? (fun e => e.1 == 1060) = some (1060, .goto 1256, 0, 0) := (sk_49 1060 rfl).trans rfl
theorem lc_7 {S : Nat × (Nat → Int32)} {lv : LV} {h : PH} {c s : Nat} {i : Int32} (hS : S.1 ≤ 3072) (hl : LwS lv i) (hi : 0 ≤ i.toInt ∧ i.toInt + 5 < S.1) (hL : LR h) (hc : c + 8 ≤ 601024) (hs : s + 48 ≤ 7293033) (Nx : ∀ lv' h' c' s', LwS lv' i → LR h' → c' ≤ c + 8 → s' ≤ s + 48 → Vx (Ex S 24) S M_368 [] Q1 2316 lv' [] h' c' s') : Vx (Ex S 24) S M_368 [] Q1 590 lv [] h c s := by
  have hC := Ex.mono S 24
  refine Vx.go hC te_368_590 ?_
  refine ⟨_, hl.2.1, ⟨0, Or.inl rfl⟩, ?_⟩
  refine sc_load hC (k := 1) hl te_368_591 te_368_592 te_368_594 te_368_595 te_368_596 (sc_in hS hi (by decide)) ?_
  refine sc_load hC (k := 2) hl te_368_597 te_368_598 te_368_600 te_368_601 te_368_602 (sc_in hS hi (by decide)) ?_
  refine Vx.go hC te_368_603 ?_
  refine ⟨_, hl.2.2.2.1, ⟨173, Or.inl rfl⟩, ?_⟩
  refine Vx.go hC te_368_604 ?_
  refine Or.inr ⟨by decide, ?_⟩
  refine p_call_mk (av := [.ref 0, .int (S.2 (i + Int32.ofInt 1).toNatClampNeg), .int (S.2 (i + Int32.ofInt 2).toNatClampNeg), .ref 173]) (rest := []) mt_64 rfl (by decide) (show c + 2 ≤ 601024 by omega) (show s + 12 ≤ 7293033 by omega) (fun q => by cases q) ?_
  refine g_64 (n := 6) hL (fun r3 h1 hL2 => ?_)
  show Vx (Ex S 24) S M_368 [] Q1 607 lv [.int r3] h1 (c + 2) (s + 12)
  refine Vx.go hC te_368_607 ?_
  refine ⟨by decide, ?_⟩
  have hl4 := LwS.st (j := 5) (v := .int r3) (by omega) hl
  show Vx (Ex S 24) S M_368 [] Q1 609 (px_s1 lv 5 (.int r3)) [] h1 (c + 2) (s + 12)
  refine Vx.go hC te_368_609 ?_
  refine ⟨_, hl4.2.2.1, ⟨143, Or.inl rfl⟩, ?_⟩
  refine sc_load hC (k := 1) hl4 te_368_610 te_368_611 te_368_613 te_368_614 te_368_615 (sc_in hS hi (by decide)) ?_
  refine sc_load hC (k := 2) hl4 te_368_616 te_368_617 te_368_619 te_368_620 te_368_621 (sc_in hS hi (by decide)) ?_
  refine Vx.go hC te_368_622 ?_
  obtain ⟨gs8, gs8g⟩ := hL2.obj (A := 143) rfl
  have hcall9 := ref_call (S := S) (n := 24) (μ := 238) (args := [.inr 143, .inl ((S.2 (i + Int32.ofInt 1).toNatClampNeg) : Int32).toInt, .inl ((S.2 (i + Int32.ofInt 2).toNatClampNeg) : Int32).toInt]) (h := h1) (fun v hv => by simp only [List.mem_cons, List.not_mem_nil, or_false] at hv; rcases hv with rfl | rfl | rfl <;> first | trivial | exact wiI _) hL2 (fun mem hr => f_238 hr (fun r m' a b => ⟨a, b⟩))
  simp only [List.map_cons, List.map_nil, wv, Int32.ofInt_toInt] at hcall9
  refine p_call_mk (av := [.ref 143, .int (S.2 (i + Int32.ofInt 1).toNatClampNeg), .int (S.2 (i + Int32.ofInt 2).toNatClampNeg)]) (rest := []) mt_238 rfl (by decide) (show (c + 2) + 0 ≤ 601024 by omega) (show (s + 12) + 0 ≤ 7293033 by omega) (fun _ => ⟨143, gs8, rfl, gs8g⟩) ?_
  refine hC _ _ _ _ _ ?_ hcall9
  rintro _ h5 ⟨hL6, r7, rfl⟩
  show Vx (Ex S 24) S M_368 [] Q1 625 (px_s1 lv 5 (.int r3)) [.int r7] h5 (c + 2) (s + 12)
  refine Vx.go hC te_368_625 ?_
  refine ⟨by decide, ?_⟩
  have hl10 := LwS.st (j := 6) (v := .int r7) (by omega) hl4
  show Vx (Ex S 24) S M_368 [] Q1 627 (px_s1 (px_s1 lv 5 (.int r3)) 6 (.int r7)) [] h5 (c + 2) (s + 12)
  refine Vx.go hC te_368_627 ?_
  refine ⟨by decide, ?_⟩
  exact Nx _ _ _ _ hl10 hL6 (by omega) (by omega)
theorem lc_9 {S : Nat × (Nat → Int32)} {lv : LV} {h : PH} {c s : Nat} {i : Int32} (hS : S.1 ≤ 3072) (hl : LwS lv i) (hi : 0 ≤ i.toInt ∧ i.toInt + 5 < S.1) (hL : LR h) (hc : c + 8 ≤ 601024) (hs : s + 48 ≤ 7293033) (Nx : ∀ lv' h' c' s', LwS lv' i → LR h' → c' ≤ c + 8 → s' ≤ s + 48 → Vx (Ex S 24) S M_368 [] Q1 2316 lv' [] h' c' s') : Vx (Ex S 24) S M_368 [] Q1 643 lv [] h c s := by
  have hC := Ex.mono S 24
  refine Vx.go hC te_368_643 ?_
  refine ⟨_, hl.2.1, ⟨0, Or.inl rfl⟩, ?_⟩
  refine sc_load hC (k := 1) hl te_368_644 te_368_645 te_368_647 te_368_648 te_368_649 (sc_in hS hi (by decide)) ?_
  refine sc_load hC (k := 2) hl te_368_650 te_368_651 te_368_653 te_368_654 te_368_655 (sc_in hS hi (by decide)) ?_
  refine Vx.go hC te_368_656 ?_
  refine ⟨_, hl.2.2.2.1, ⟨173, Or.inl rfl⟩, ?_⟩
  refine Vx.go hC te_368_657 ?_
  refine Or.inr ⟨by decide, ?_⟩
  refine p_call_mk (av := [.ref 0, .int (S.2 (i + Int32.ofInt 1).toNatClampNeg), .int (S.2 (i + Int32.ofInt 2).toNatClampNeg), .ref 173]) (rest := []) mt_67 rfl (by decide) (show c + 3 ≤ 601024 by omega) (show s + 18 ≤ 7293033 by omega) (fun q => by cases q) ?_
  refine g_67 (n := 6) hL (fun r3 h1 hL2 => ?_)
  show Vx (Ex S 24) S M_368 [] Q1 660 lv [.int r3] h1 (c + 3) (s + 18)
  refine Vx.go hC te_368_660 ?_
  refine ⟨by decide, ?_⟩
  have hl4 := LwS.st (j := 5) (v := .int r3) (by omega) hl
  show Vx (Ex S 24) S M_368 [] Q1 662 (px_s1 lv 5 (.int r3)) [] h1 (c + 3) (s + 18)
  refine Vx.go hC te_368_662 ?_
  refine ⟨_, hl4.2.2.1, ⟨143, Or.inl rfl⟩, ?_⟩
  refine sc_load hC (k := 1) hl4 te_368_663 te_368_664 te_368_666 te_368_667 te_368_668 (sc_in hS hi (by decide)) ?_
  refine sc_load hC (k := 2) hl4 te_368_669 te_368_670 te_368_672 te_368_673 te_368_674 (sc_in hS hi (by decide)) ?_
  refine Vx.go hC te_368_675 ?_
  obtain ⟨gs8, gs8g⟩ := hL2.obj (A := 143) rfl
  have hcall9 := ref_call (S := S) (n := 24) (μ := 244) (args := [.inr 143, .inl ((S.2 (i + Int32.ofInt 1).toNatClampNeg) : Int32).toInt, .inl ((S.2 (i + Int32.ofInt 2).toNatClampNeg) : Int32).toInt]) (h := h1) (fun v hv => by simp only [List.mem_cons, List.not_mem_nil, or_false] at hv; rcases hv with rfl | rfl | rfl <;> first | trivial | exact wiI _) hL2 (fun mem hr => f_244 hr (fun r m' a b => ⟨a, b⟩))
  simp only [List.map_cons, List.map_nil, wv, Int32.ofInt_toInt] at hcall9
  refine p_call_mk (av := [.ref 143, .int (S.2 (i + Int32.ofInt 1).toNatClampNeg), .int (S.2 (i + Int32.ofInt 2).toNatClampNeg)]) (rest := []) mt_244 rfl (by decide) (show (c + 3) + 0 ≤ 601024 by omega) (show (s + 18) + 0 ≤ 7293033 by omega) (fun _ => ⟨143, gs8, rfl, gs8g⟩) ?_
  refine hC _ _ _ _ _ ?_ hcall9
  rintro _ h5 ⟨hL6, r7, rfl⟩
  show Vx (Ex S 24) S M_368 [] Q1 678 (px_s1 lv 5 (.int r3)) [.int r7] h5 (c + 3) (s + 18)
  refine Vx.go hC te_368_678 ?_
  refine ⟨by decide, ?_⟩
  have hl10 := LwS.st (j := 6) (v := .int r7) (by omega) hl4
  show Vx (Ex S 24) S M_368 [] Q1 680 (px_s1 (px_s1 lv 5 (.int r3)) 6 (.int r7)) [] h5 (c + 3) (s + 18)
  refine Vx.go hC te_368_680 ?_
  refine ⟨by decide, ?_⟩
  exact Nx _ _ _ _ hl10 hL6 (by omega) (by omega)
theorem lc_10 {S : Nat × (Nat → Int32)} {lv : LV} {h : PH} {c s : Nat} {i : Int32} (hS : S.1 ≤ 3072) (hl : LwS lv i) (hi : 0 ≤ i.toInt ∧ i.toInt + 5 < S.1) (hL : LR h) (hc : c + 8 ≤ 601024) (hs : s + 48 ≤ 7293033) (Nx : ∀ lv' h' c' s', LwS lv' i → LR h' → c' ≤ c + 8 → s' ≤ s + 48 → Vx (Ex S 24) S M_368 [] Q1 2316 lv' [] h' c' s') : Vx (Ex S 24) S M_368 [] Q1 683 lv [] h c s := by
  have hC := Ex.mono S 24
  refine Vx.go hC te_368_683 ?_
  refine ⟨_, hl.2.1, ⟨0, Or.inl rfl⟩, ?_⟩
  refine sc_load hC (k := 1) hl te_368_684 te_368_685 te_368_687 te_368_688 te_368_689 (sc_in hS hi (by decide)) ?_
  refine sc_load hC (k := 2) hl te_368_690 te_368_691 te_368_693 te_368_694 te_368_695 (sc_in hS hi (by decide)) ?_
  refine sc_load hC (k := 3) hl te_368_696 te_368_697 te_368_699 te_368_700 te_368_701 (sc_in hS hi (by decide)) ?_
  refine Vx.go hC te_368_702 ?_
  refine ⟨_, hl.2.2.2.1, ⟨173, Or.inl rfl⟩, ?_⟩
  refine Vx.go hC te_368_703 ?_
  refine Or.inr ⟨by decide, ?_⟩
  refine p_call_mk (av := [.ref 0, .int (S.2 (i + Int32.ofInt 1).toNatClampNeg), .int (S.2 (i + Int32.ofInt 2).toNatClampNeg), .int (S.2 (i + Int32.ofInt 3).toNatClampNeg), .ref 173]) (rest := []) mt_71 rfl (by decide) (show c + 5 ≤ 601024 by omega) (show s + 30 ≤ 7293033 by omega) (fun q => by cases q) ?_
  refine g_71 (n := 6) hL (fun r3 h1 hL2 => ?_)
  show Vx (Ex S 24) S M_368 [] Q1 706 lv [.int r3] h1 (c + 5) (s + 30)
  refine Vx.go hC te_368_706 ?_
  refine ⟨by decide, ?_⟩
  have hl4 := LwS.st (j := 5) (v := .int r3) (by omega) hl
  show Vx (Ex S 24) S M_368 [] Q1 708 (px_s1 lv 5 (.int r3)) [] h1 (c + 5) (s + 30)
  refine Vx.go hC te_368_708 ?_
  refine ⟨_, hl4.2.2.1, ⟨143, Or.inl rfl⟩, ?_⟩
  refine sc_load hC (k := 1) hl4 te_368_709 te_368_710 te_368_712 te_368_713 te_368_714 (sc_in hS hi (by decide)) ?_
  refine sc_load hC (k := 2) hl4 te_368_715 te_368_716 te_368_718 te_368_719 te_368_720 (sc_in hS hi (by decide)) ?_
  refine sc_load hC (k := 3) hl4 te_368_721 te_368_722 te_368_724 te_368_725 te_368_726 (sc_in hS hi (by decide)) ?_
  refine Vx.go hC te_368_727 ?_
  obtain ⟨gs8, gs8g⟩ := hL2.obj (A := 143) rfl
  have hcall9 := ref_call (S := S) (n := 24) (μ := 252) (args := [.inr 143, .inl ((S.2 (i + Int32.ofInt 1).toNatClampNeg) : Int32).toInt, .inl ((S.2 (i + Int32.ofInt 2).toNatClampNeg) : Int32).toInt, .inl ((S.2 (i + Int32.ofInt 3).toNatClampNeg) : Int32).toInt]) (h := h1) (fun v hv => by simp only [List.mem_cons, List.not_mem_nil, or_false] at hv; rcases hv with rfl | rfl | rfl | rfl <;> first | trivial | exact wiI _) hL2 (fun mem hr => f_252 hr (fun r m' a b => ⟨a, b⟩))
  simp only [List.map_cons, List.map_nil, wv, Int32.ofInt_toInt] at hcall9
  refine p_call_mk (av := [.ref 143, .int (S.2 (i + Int32.ofInt 1).toNatClampNeg), .int (S.2 (i + Int32.ofInt 2).toNatClampNeg), .int (S.2 (i + Int32.ofInt 3).toNatClampNeg)]) (rest := []) mt_252 rfl (by decide) (show (c + 5) + 0 ≤ 601024 by omega) (show (s + 30) + 0 ≤ 7293033 by omega) (fun _ => ⟨143, gs8, rfl, gs8g⟩) ?_
  refine hC _ _ _ _ _ ?_ hcall9
  rintro _ h5 ⟨hL6, r7, rfl⟩
  show Vx (Ex S 24) S M_368 [] Q1 730 (px_s1 lv 5 (.int r3)) [.int r7] h5 (c + 5) (s + 30)
  refine Vx.go hC te_368_730 ?_
  refine ⟨by decide, ?_⟩
  have hl10 := LwS.st (j := 6) (v := .int r7) (by omega) hl4
  show Vx (Ex S 24) S M_368 [] Q1 732 (px_s1 (px_s1 lv 5 (.int r3)) 6 (.int r7)) [] h5 (c + 5) (s + 30)
  refine Vx.go hC te_368_732 ?_
  refine ⟨by decide, ?_⟩
  exact Nx _ _ _ _ hl10 hL6 (by omega) (by omega)
theorem lc_11 {S : Nat × (Nat → Int32)} {lv : LV} {h : PH} {c s : Nat} {i : Int32} (hS : S.1 ≤ 3072) (hl : LwS lv i) (hi : 0 ≤ i.toInt ∧ i.toInt + 5 < S.1) (hL : LR h) (hc : c + 8 ≤ 601024) (hs : s + 48 ≤ 7293033) (Nx : ∀ lv' h' c' s', LwS lv' i → LR h' → c' ≤ c + 8 → s' ≤ s + 48 → Vx (Ex S 24) S M_368 [] Q1 2316 lv' [] h' c' s') : Vx (Ex S 24) S M_368 [] Q1 735 lv [] h c s := by
  have hC := Ex.mono S 24
  refine Vx.go hC te_368_735 ?_
  refine ⟨_, hl.2.1, ⟨0, Or.inl rfl⟩, ?_⟩
  refine sc_load hC (k := 1) hl te_368_736 te_368_737 te_368_739 te_368_740 te_368_741 (sc_in hS hi (by decide)) ?_
  refine sc_load hC (k := 2) hl te_368_742 te_368_743 te_368_745 te_368_746 te_368_747 (sc_in hS hi (by decide)) ?_
  refine Vx.go hC te_368_748 ?_
  refine ⟨_, hl.2.2.2.1, ⟨173, Or.inl rfl⟩, ?_⟩
  refine Vx.go hC te_368_749 ?_
  refine Or.inr ⟨by decide, ?_⟩
  refine p_call_mk (av := [.ref 0, .int (S.2 (i + Int32.ofInt 1).toNatClampNeg), .int (S.2 (i + Int32.ofInt 2).toNatClampNeg), .ref 173]) (rest := []) mt_78 rfl (by decide) (show c + 4 ≤ 601024 by omega) (show s + 24 ≤ 7293033 by omega) (fun q => by cases q) ?_
  refine g_78 (n := 6) hL (fun r3 h1 hL2 => ?_)
  show Vx (Ex S 24) S M_368 [] Q1 752 lv [.int r3] h1 (c + 4) (s + 24)
  refine Vx.go hC te_368_752 ?_
  refine ⟨by decide, ?_⟩
  have hl4 := LwS.st (j := 5) (v := .int r3) (by omega) hl
  show Vx (Ex S 24) S M_368 [] Q1 754 (px_s1 lv 5 (.int r3)) [] h1 (c + 4) (s + 24)
  refine Vx.go hC te_368_754 ?_
  refine ⟨_, hl4.2.2.1, ⟨143, Or.inl rfl⟩, ?_⟩
  refine sc_load hC (k := 1) hl4 te_368_755 te_368_756 te_368_758 te_368_759 te_368_760 (sc_in hS hi (by decide)) ?_
  refine sc_load hC (k := 2) hl4 te_368_761 te_368_762 te_368_764 te_368_765 te_368_766 (sc_in hS hi (by decide)) ?_
  refine Vx.go hC te_368_767 ?_
  obtain ⟨gs8, gs8g⟩ := hL2.obj (A := 143) rfl
  have hcall9 := ref_call (S := S) (n := 24) (μ := 260) (args := [.inr 143, .inl ((S.2 (i + Int32.ofInt 1).toNatClampNeg) : Int32).toInt, .inl ((S.2 (i + Int32.ofInt 2).toNatClampNeg) : Int32).toInt]) (h := h1) (fun v hv => by simp only [List.mem_cons, List.not_mem_nil, or_false] at hv; rcases hv with rfl | rfl | rfl <;> first | trivial | exact wiI _) hL2 (fun mem hr => f_260 hr (fun r m' a b => ⟨a, b⟩))
  simp only [List.map_cons, List.map_nil, wv, Int32.ofInt_toInt] at hcall9
  refine p_call_mk (av := [.ref 143, .int (S.2 (i + Int32.ofInt 1).toNatClampNeg), .int (S.2 (i + Int32.ofInt 2).toNatClampNeg)]) (rest := []) mt_260 rfl (by decide) (show (c + 4) + 0 ≤ 601024 by omega) (show (s + 24) + 0 ≤ 7293033 by omega) (fun _ => ⟨143, gs8, rfl, gs8g⟩) ?_
  refine hC _ _ _ _ _ ?_ hcall9
  rintro _ h5 ⟨hL6, r7, rfl⟩
  show Vx (Ex S 24) S M_368 [] Q1 770 (px_s1 lv 5 (.int r3)) [.int r7] h5 (c + 4) (s + 24)
  refine Vx.go hC te_368_770 ?_
  refine ⟨by decide, ?_⟩
  have hl10 := LwS.st (j := 6) (v := .int r7) (by omega) hl4
  show Vx (Ex S 24) S M_368 [] Q1 772 (px_s1 (px_s1 lv 5 (.int r3)) 6 (.int r7)) [] h5 (c + 4) (s + 24)
  refine Vx.go hC te_368_772 ?_
  refine ⟨by decide, ?_⟩
  exact Nx _ _ _ _ hl10 hL6 (by omega) (by omega)
theorem lc_12 {S : Nat × (Nat → Int32)} {lv : LV} {h : PH} {c s : Nat} {i : Int32} (hS : S.1 ≤ 3072) (hl : LwS lv i) (hi : 0 ≤ i.toInt ∧ i.toInt + 5 < S.1) (hL : LR h) (hc : c + 8 ≤ 601024) (hs : s + 48 ≤ 7293033) (Nx : ∀ lv' h' c' s', LwS lv' i → LR h' → c' ≤ c + 8 → s' ≤ s + 48 → Vx (Ex S 24) S M_368 [] Q1 2316 lv' [] h' c' s') : Vx (Ex S 24) S M_368 [] Q1 775 lv [] h c s := by
  have hC := Ex.mono S 24
  refine Vx.go hC te_368_775 ?_
  refine ⟨_, hl.2.1, ⟨0, Or.inl rfl⟩, ?_⟩
  refine sc_load hC (k := 1) hl te_368_776 te_368_777 te_368_779 te_368_780 te_368_781 (sc_in hS hi (by decide)) ?_
  refine Vx.go hC te_368_782 ?_
  refine ⟨_, hl.2.2.2.1, ⟨173, Or.inl rfl⟩, ?_⟩
  refine Vx.go hC te_368_783 ?_
  refine Or.inr ⟨by decide, ?_⟩
  refine p_call_mk (av := [.ref 0, .int (S.2 (i + Int32.ofInt 1).toNatClampNeg), .ref 173]) (rest := []) mt_81 rfl (by decide) (show c + 1 ≤ 601024 by omega) (show s + 6 ≤ 7293033 by omega) (fun q => by cases q) ?_
  refine g_81 (n := 6) hL (fun r3 h1 hL2 => ?_)
  show Vx (Ex S 24) S M_368 [] Q1 786 lv [.int r3] h1 (c + 1) (s + 6)
  refine Vx.go hC te_368_786 ?_
  refine ⟨by decide, ?_⟩
  have hl4 := LwS.st (j := 5) (v := .int r3) (by omega) hl
  show Vx (Ex S 24) S M_368 [] Q1 788 (px_s1 lv 5 (.int r3)) [] h1 (c + 1) (s + 6)
  refine Vx.go hC te_368_788 ?_
  refine ⟨_, hl4.2.2.1, ⟨143, Or.inl rfl⟩, ?_⟩
  refine sc_load hC (k := 1) hl4 te_368_789 te_368_790 te_368_792 te_368_793 te_368_794 (sc_in hS hi (by decide)) ?_
  refine Vx.go hC te_368_795 ?_
  obtain ⟨gs8, gs8g⟩ := hL2.obj (A := 143) rfl
  have hcall9 := ref_call (S := S) (n := 24) (μ := 262) (args := [.inr 143, .inl ((S.2 (i + Int32.ofInt 1).toNatClampNeg) : Int32).toInt]) (h := h1) (fun v hv => by simp only [List.mem_cons, List.not_mem_nil, or_false] at hv; rcases hv with rfl | rfl <;> first | trivial | exact wiI _) hL2 (fun mem hr => f_262 hr (fun r m' a b => ⟨a, b⟩))
  simp only [List.map_cons, List.map_nil, wv, Int32.ofInt_toInt] at hcall9
  refine p_call_mk (av := [.ref 143, .int (S.2 (i + Int32.ofInt 1).toNatClampNeg)]) (rest := []) mt_262 rfl (by decide) (show (c + 1) + 0 ≤ 601024 by omega) (show (s + 6) + 0 ≤ 7293033 by omega) (fun _ => ⟨143, gs8, rfl, gs8g⟩) ?_
  refine hC _ _ _ _ _ ?_ hcall9
  rintro _ h5 ⟨hL6, r7, rfl⟩
  show Vx (Ex S 24) S M_368 [] Q1 798 (px_s1 lv 5 (.int r3)) [.int r7] h5 (c + 1) (s + 6)
  refine Vx.go hC te_368_798 ?_
  refine ⟨by decide, ?_⟩
  have hl10 := LwS.st (j := 6) (v := .int r7) (by omega) hl4
  show Vx (Ex S 24) S M_368 [] Q1 800 (px_s1 (px_s1 lv 5 (.int r3)) 6 (.int r7)) [] h5 (c + 1) (s + 6)
  refine Vx.go hC te_368_800 ?_
  refine ⟨by decide, ?_⟩
  exact Nx _ _ _ _ hl10 hL6 (by omega) (by omega)
theorem lc_13 {S : Nat × (Nat → Int32)} {lv : LV} {h : PH} {c s : Nat} {i : Int32} (hS : S.1 ≤ 3072) (hl : LwS lv i) (hi : 0 ≤ i.toInt ∧ i.toInt + 5 < S.1) (hL : LR h) (hc : c + 8 ≤ 601024) (hs : s + 48 ≤ 7293033) (Nx : ∀ lv' h' c' s', LwS lv' i → LR h' → c' ≤ c + 8 → s' ≤ s + 48 → Vx (Ex S 24) S M_368 [] Q1 2316 lv' [] h' c' s') : Vx (Ex S 24) S M_368 [] Q1 803 lv [] h c s := by
  have hC := Ex.mono S 24
  refine Vx.go hC te_368_803 ?_
  refine ⟨_, hl.2.1, ⟨0, Or.inl rfl⟩, ?_⟩
  refine sc_load hC (k := 1) hl te_368_804 te_368_805 te_368_807 te_368_808 te_368_809 (sc_in hS hi (by decide)) ?_
  refine Vx.go hC te_368_810 ?_
  refine ⟨_, hl.2.2.2.1, ⟨173, Or.inl rfl⟩, ?_⟩
  refine Vx.go hC te_368_811 ?_
  refine Or.inr ⟨by decide, ?_⟩
  refine p_call_mk (av := [.ref 0, .int (S.2 (i + Int32.ofInt 1).toNatClampNeg), .ref 173]) (rest := []) mt_83 rfl (by decide) (show c + 2 ≤ 601024 by omega) (show s + 12 ≤ 7293033 by omega) (fun q => by cases q) ?_
  refine g_83 (n := 6) hL (fun r3 h1 hL2 => ?_)
  show Vx (Ex S 24) S M_368 [] Q1 814 lv [.int r3] h1 (c + 2) (s + 12)
  refine Vx.go hC te_368_814 ?_
  refine ⟨by decide, ?_⟩
  have hl4 := LwS.st (j := 5) (v := .int r3) (by omega) hl
  show Vx (Ex S 24) S M_368 [] Q1 816 (px_s1 lv 5 (.int r3)) [] h1 (c + 2) (s + 12)
  refine Vx.go hC te_368_816 ?_
  refine ⟨_, hl4.2.2.1, ⟨143, Or.inl rfl⟩, ?_⟩
  refine sc_load hC (k := 1) hl4 te_368_817 te_368_818 te_368_820 te_368_821 te_368_822 (sc_in hS hi (by decide)) ?_
  refine Vx.go hC te_368_823 ?_
  obtain ⟨gs8, gs8g⟩ := hL2.obj (A := 143) rfl
  have hcall9 := ref_call (S := S) (n := 24) (μ := 267) (args := [.inr 143, .inl ((S.2 (i + Int32.ofInt 1).toNatClampNeg) : Int32).toInt]) (h := h1) (fun v hv => by simp only [List.mem_cons, List.not_mem_nil, or_false] at hv; rcases hv with rfl | rfl <;> first | trivial | exact wiI _) hL2 (fun mem hr => f_267 hr (fun r m' a b => ⟨a, b⟩))
  simp only [List.map_cons, List.map_nil, wv, Int32.ofInt_toInt] at hcall9
  refine p_call_mk (av := [.ref 143, .int (S.2 (i + Int32.ofInt 1).toNatClampNeg)]) (rest := []) mt_267 rfl (by decide) (show (c + 2) + 0 ≤ 601024 by omega) (show (s + 12) + 0 ≤ 7293033 by omega) (fun _ => ⟨143, gs8, rfl, gs8g⟩) ?_
  refine hC _ _ _ _ _ ?_ hcall9
  rintro _ h5 ⟨hL6, r7, rfl⟩
  show Vx (Ex S 24) S M_368 [] Q1 826 (px_s1 lv 5 (.int r3)) [.int r7] h5 (c + 2) (s + 12)
  refine Vx.go hC te_368_826 ?_
  refine ⟨by decide, ?_⟩
  have hl10 := LwS.st (j := 6) (v := .int r7) (by omega) hl4
  show Vx (Ex S 24) S M_368 [] Q1 828 (px_s1 (px_s1 lv 5 (.int r3)) 6 (.int r7)) [] h5 (c + 2) (s + 12)
  refine Vx.go hC te_368_828 ?_
  refine ⟨by decide, ?_⟩
  exact Nx _ _ _ _ hl10 hL6 (by omega) (by omega)
theorem lc_14 {S : Nat × (Nat → Int32)} {lv : LV} {h : PH} {c s : Nat} {i : Int32} (hS : S.1 ≤ 3072) (hl : LwS lv i) (hi : 0 ≤ i.toInt ∧ i.toInt + 5 < S.1) (hL : LR h) (hc : c + 8 ≤ 601024) (hs : s + 48 ≤ 7293033) (Nx : ∀ lv' h' c' s', LwS lv' i → LR h' → c' ≤ c + 8 → s' ≤ s + 48 → Vx (Ex S 24) S M_368 [] Q1 2316 lv' [] h' c' s') : Vx (Ex S 24) S M_368 [] Q1 831 lv [] h c s := by
  have hC := Ex.mono S 24
  refine Vx.go hC te_368_831 ?_
  refine ⟨_, hl.2.1, ⟨0, Or.inl rfl⟩, ?_⟩
  refine Vx.go hC te_368_832 ?_
  refine ⟨_, hl.2.2.2.1, ⟨173, Or.inl rfl⟩, ?_⟩
  refine Vx.go hC te_368_833 ?_
  refine Or.inr ⟨by decide, ?_⟩
  refine p_call_mk (av := [.ref 0, .ref 173]) (rest := []) mt_111 rfl (by decide) (show c + 1 ≤ 601024 by omega) (show s + 6 ≤ 7293033 by omega) (fun q => by cases q) ?_
  refine g_111 (n := 6) hL (fun r3 h1 hL2 => ?_)
  show Vx (Ex S 24) S M_368 [] Q1 836 lv [.int r3] h1 (c + 1) (s + 6)
  refine Vx.go hC te_368_836 ?_
  refine ⟨by decide, ?_⟩
  have hl4 := LwS.st (j := 5) (v := .int r3) (by omega) hl
  show Vx (Ex S 24) S M_368 [] Q1 838 (px_s1 lv 5 (.int r3)) [] h1 (c + 1) (s + 6)
  refine Vx.go hC te_368_838 ?_
  refine ⟨_, hl4.2.2.1, ⟨143, Or.inl rfl⟩, ?_⟩
  refine Vx.go hC te_368_839 ?_
  obtain ⟨gs8, gs8g⟩ := hL2.obj (A := 143) rfl
  have hcall9 := ref_call (S := S) (n := 24) (μ := 277) (args := [.inr 143]) (h := h1) (fun v hv => by simp only [List.mem_cons, List.not_mem_nil, or_false] at hv; rw [hv]; trivial) hL2 (fun mem hr => f_277 hr (fun r m' a b => ⟨a, b⟩))
  simp only [List.map_cons, List.map_nil, wv, Int32.ofInt_toInt] at hcall9
  refine p_call_mk (av := [.ref 143]) (rest := []) mt_277 rfl (by decide) (show (c + 1) + 0 ≤ 601024 by omega) (show (s + 6) + 0 ≤ 7293033 by omega) (fun _ => ⟨143, gs8, rfl, gs8g⟩) ?_
  refine hC _ _ _ _ _ ?_ hcall9
  rintro _ h5 ⟨hL6, r7, rfl⟩
  show Vx (Ex S 24) S M_368 [] Q1 842 (px_s1 lv 5 (.int r3)) [.int r7] h5 (c + 1) (s + 6)
  refine Vx.go hC te_368_842 ?_
  refine ⟨by decide, ?_⟩
  have hl10 := LwS.st (j := 6) (v := .int r7) (by omega) hl4
  show Vx (Ex S 24) S M_368 [] Q1 844 (px_s1 (px_s1 lv 5 (.int r3)) 6 (.int r7)) [] h5 (c + 1) (s + 6)
  refine Vx.go hC te_368_844 ?_
  refine ⟨by decide, ?_⟩
  exact Nx _ _ _ _ hl10 hL6 (by omega) (by omega)
theorem lc_15 {S : Nat × (Nat → Int32)} {lv : LV} {h : PH} {c s : Nat} {i : Int32} (hS : S.1 ≤ 3072) (hl : LwS lv i) (hi : 0 ≤ i.toInt ∧ i.toInt + 5 < S.1) (hL : LR h) (hc : c + 8 ≤ 601024) (hs : s + 48 ≤ 7293033) (Nx : ∀ lv' h' c' s', LwS lv' i → LR h' → c' ≤ c + 8 → s' ≤ s + 48 → Vx (Ex S 24) S M_368 [] Q1 2316 lv' [] h' c' s') : Vx (Ex S 24) S M_368 [] Q1 847 lv [] h c s := by
  have hC := Ex.mono S 24
  refine Vx.go hC te_368_847 ?_
  refine ⟨_, hl.2.1, ⟨0, Or.inl rfl⟩, ?_⟩
  refine sc_load hC (k := 1) hl te_368_848 te_368_849 te_368_851 te_368_852 te_368_853 (sc_in hS hi (by decide)) ?_
  refine sc_load hC (k := 2) hl te_368_854 te_368_855 te_368_857 te_368_858 te_368_859 (sc_in hS hi (by decide)) ?_
  refine Vx.go hC te_368_860 ?_
  refine ⟨_, hl.2.2.2.1, ⟨173, Or.inl rfl⟩, ?_⟩
  refine Vx.go hC te_368_861 ?_
  refine Or.inr ⟨by decide, ?_⟩
  refine p_call_mk (av := [.ref 0, .int (S.2 (i + Int32.ofInt 1).toNatClampNeg), .int (S.2 (i + Int32.ofInt 2).toNatClampNeg), .ref 173]) (rest := []) mt_113 rfl (by decide) (show c + 4 ≤ 601024 by omega) (show s + 24 ≤ 7293033 by omega) (fun q => by cases q) ?_
  refine g_113 (n := 6) hL (fun r3 h1 hL2 => ?_)
  show Vx (Ex S 24) S M_368 [] Q1 864 lv [.int r3] h1 (c + 4) (s + 24)
  refine Vx.go hC te_368_864 ?_
  refine ⟨by decide, ?_⟩
  have hl4 := LwS.st (j := 5) (v := .int r3) (by omega) hl
  show Vx (Ex S 24) S M_368 [] Q1 866 (px_s1 lv 5 (.int r3)) [] h1 (c + 4) (s + 24)
  refine Vx.go hC te_368_866 ?_
  refine ⟨_, hl4.2.2.1, ⟨143, Or.inl rfl⟩, ?_⟩
  refine sc_load hC (k := 1) hl4 te_368_867 te_368_868 te_368_870 te_368_871 te_368_872 (sc_in hS hi (by decide)) ?_
  refine sc_load hC (k := 2) hl4 te_368_873 te_368_874 te_368_876 te_368_877 te_368_878 (sc_in hS hi (by decide)) ?_
  refine Vx.go hC te_368_879 ?_
  obtain ⟨gs8, gs8g⟩ := hL2.obj (A := 143) rfl
  have hcall9 := ref_call (S := S) (n := 24) (μ := 278) (args := [.inr 143, .inl ((S.2 (i + Int32.ofInt 1).toNatClampNeg) : Int32).toInt, .inl ((S.2 (i + Int32.ofInt 2).toNatClampNeg) : Int32).toInt]) (h := h1) (fun v hv => by simp only [List.mem_cons, List.not_mem_nil, or_false] at hv; rcases hv with rfl | rfl | rfl <;> first | trivial | exact wiI _) hL2 (fun mem hr => f_278 hr (fun r m' a b => ⟨a, b⟩))
  simp only [List.map_cons, List.map_nil, wv, Int32.ofInt_toInt] at hcall9
  refine p_call_mk (av := [.ref 143, .int (S.2 (i + Int32.ofInt 1).toNatClampNeg), .int (S.2 (i + Int32.ofInt 2).toNatClampNeg)]) (rest := []) mt_278 rfl (by decide) (show (c + 4) + 0 ≤ 601024 by omega) (show (s + 24) + 0 ≤ 7293033 by omega) (fun _ => ⟨143, gs8, rfl, gs8g⟩) ?_
  refine hC _ _ _ _ _ ?_ hcall9
  rintro _ h5 ⟨hL6, r7, rfl⟩
  show Vx (Ex S 24) S M_368 [] Q1 882 (px_s1 lv 5 (.int r3)) [.int r7] h5 (c + 4) (s + 24)
  refine Vx.go hC te_368_882 ?_
  refine ⟨by decide, ?_⟩
  have hl10 := LwS.st (j := 6) (v := .int r7) (by omega) hl4
  show Vx (Ex S 24) S M_368 [] Q1 884 (px_s1 (px_s1 lv 5 (.int r3)) 6 (.int r7)) [] h5 (c + 4) (s + 24)
  refine Vx.go hC te_368_884 ?_
  refine ⟨by decide, ?_⟩
  exact Nx _ _ _ _ hl10 hL6 (by omega) (by omega)
theorem lc_16 {S : Nat × (Nat → Int32)} {lv : LV} {h : PH} {c s : Nat} {i : Int32} (hS : S.1 ≤ 3072) (hl : LwS lv i) (hi : 0 ≤ i.toInt ∧ i.toInt + 5 < S.1) (hL : LR h) (hc : c + 8 ≤ 601024) (hs : s + 48 ≤ 7293033) (Nx : ∀ lv' h' c' s', LwS lv' i → LR h' → c' ≤ c + 8 → s' ≤ s + 48 → Vx (Ex S 24) S M_368 [] Q1 2316 lv' [] h' c' s') : Vx (Ex S 24) S M_368 [] Q1 887 lv [] h c s := by
  have hC := Ex.mono S 24
  refine Vx.go hC te_368_887 ?_
  refine ⟨_, hl.2.1, ⟨0, Or.inl rfl⟩, ?_⟩
  refine sc_load hC (k := 1) hl te_368_888 te_368_889 te_368_891 te_368_892 te_368_893 (sc_in hS hi (by decide)) ?_
  refine sc_load hC (k := 2) hl te_368_894 te_368_895 te_368_897 te_368_898 te_368_899 (sc_in hS hi (by decide)) ?_
  refine sc_load hC (k := 3) hl te_368_900 te_368_901 te_368_903 te_368_904 te_368_905 (sc_in hS hi (by decide)) ?_
  refine Vx.go hC te_368_906 ?_
  refine ⟨_, hl.2.2.2.1, ⟨173, Or.inl rfl⟩, ?_⟩
  refine Vx.go hC te_368_907 ?_
  refine Or.inr ⟨by decide, ?_⟩
  refine p_call_mk (av := [.ref 0, .int (S.2 (i + Int32.ofInt 1).toNatClampNeg), .int (S.2 (i + Int32.ofInt 2).toNatClampNeg), .int (S.2 (i + Int32.ofInt 3).toNatClampNeg), .ref 173]) (rest := []) mt_116 rfl (by decide) (show c + 6 ≤ 601024 by omega) (show s + 36 ≤ 7293033 by omega) (fun q => by cases q) ?_
  refine g_116 (n := 6) hL (fun r3 h1 hL2 => ?_)
  show Vx (Ex S 24) S M_368 [] Q1 910 lv [.int r3] h1 (c + 6) (s + 36)
  refine Vx.go hC te_368_910 ?_
  refine ⟨by decide, ?_⟩
  have hl4 := LwS.st (j := 5) (v := .int r3) (by omega) hl
  show Vx (Ex S 24) S M_368 [] Q1 912 (px_s1 lv 5 (.int r3)) [] h1 (c + 6) (s + 36)
  refine Vx.go hC te_368_912 ?_
  refine ⟨_, hl4.2.2.1, ⟨143, Or.inl rfl⟩, ?_⟩
  refine sc_load hC (k := 1) hl4 te_368_913 te_368_914 te_368_916 te_368_917 te_368_918 (sc_in hS hi (by decide)) ?_
  refine sc_load hC (k := 2) hl4 te_368_919 te_368_920 te_368_922 te_368_923 te_368_924 (sc_in hS hi (by decide)) ?_
  refine sc_load hC (k := 3) hl4 te_368_925 te_368_926 te_368_928 te_368_929 te_368_930 (sc_in hS hi (by decide)) ?_
  refine Vx.go hC te_368_931 ?_
  obtain ⟨gs8, gs8g⟩ := hL2.obj (A := 143) rfl
  have hcall9 := ref_call (S := S) (n := 24) (μ := 279) (args := [.inr 143, .inl ((S.2 (i + Int32.ofInt 1).toNatClampNeg) : Int32).toInt, .inl ((S.2 (i + Int32.ofInt 2).toNatClampNeg) : Int32).toInt, .inl ((S.2 (i + Int32.ofInt 3).toNatClampNeg) : Int32).toInt]) (h := h1) (fun v hv => by simp only [List.mem_cons, List.not_mem_nil, or_false] at hv; rcases hv with rfl | rfl | rfl | rfl <;> first | trivial | exact wiI _) hL2 (fun mem hr => f_279 hr (fun r m' a b => ⟨a, b⟩))
  simp only [List.map_cons, List.map_nil, wv, Int32.ofInt_toInt] at hcall9
  refine p_call_mk (av := [.ref 143, .int (S.2 (i + Int32.ofInt 1).toNatClampNeg), .int (S.2 (i + Int32.ofInt 2).toNatClampNeg), .int (S.2 (i + Int32.ofInt 3).toNatClampNeg)]) (rest := []) mt_279 rfl (by decide) (show (c + 6) + 0 ≤ 601024 by omega) (show (s + 36) + 0 ≤ 7293033 by omega) (fun _ => ⟨143, gs8, rfl, gs8g⟩) ?_
  refine hC _ _ _ _ _ ?_ hcall9
  rintro _ h5 ⟨hL6, r7, rfl⟩
  show Vx (Ex S 24) S M_368 [] Q1 934 (px_s1 lv 5 (.int r3)) [.int r7] h5 (c + 6) (s + 36)
  refine Vx.go hC te_368_934 ?_
  refine ⟨by decide, ?_⟩
  have hl10 := LwS.st (j := 6) (v := .int r7) (by omega) hl4
  show Vx (Ex S 24) S M_368 [] Q1 936 (px_s1 (px_s1 lv 5 (.int r3)) 6 (.int r7)) [] h5 (c + 6) (s + 36)
  refine Vx.go hC te_368_936 ?_
  refine ⟨by decide, ?_⟩
  exact Nx _ _ _ _ hl10 hL6 (by omega) (by omega)
theorem lc_17 {S : Nat × (Nat → Int32)} {lv : LV} {h : PH} {c s : Nat} {i : Int32} (hS : S.1 ≤ 3072) (hl : LwS lv i) (hi : 0 ≤ i.toInt ∧ i.toInt + 5 < S.1) (hL : LR h) (hc : c + 8 ≤ 601024) (hs : s + 48 ≤ 7293033) (Nx : ∀ lv' h' c' s', LwS lv' i → LR h' → c' ≤ c + 8 → s' ≤ s + 48 → Vx (Ex S 24) S M_368 [] Q1 2316 lv' [] h' c' s') : Vx (Ex S 24) S M_368 [] Q1 939 lv [] h c s := by
  have hC := Ex.mono S 24
  refine Vx.go hC te_368_939 ?_
  refine ⟨_, hl.2.1, ⟨0, Or.inl rfl⟩, ?_⟩
  refine sc_load hC (k := 1) hl te_368_940 te_368_941 te_368_943 te_368_944 te_368_945 (sc_in hS hi (by decide)) ?_
  refine sc_load hC (k := 2) hl te_368_946 te_368_947 te_368_949 te_368_950 te_368_951 (sc_in hS hi (by decide)) ?_
  refine Vx.go hC te_368_952 ?_
  refine ⟨_, hl.2.2.2.1, ⟨173, Or.inl rfl⟩, ?_⟩
  refine Vx.go hC te_368_953 ?_
  refine Or.inr ⟨by decide, ?_⟩
  refine p_call_mk (av := [.ref 0, .int (S.2 (i + Int32.ofInt 1).toNatClampNeg), .int (S.2 (i + Int32.ofInt 2).toNatClampNeg), .ref 173]) (rest := []) mt_121 rfl (by decide) (show c + 4 ≤ 601024 by omega) (show s + 24 ≤ 7293033 by omega) (fun q => by cases q) ?_
  refine g_121 (n := 6) hL (fun r3 h1 hL2 => ?_)
  show Vx (Ex S 24) S M_368 [] Q1 956 lv [.int r3] h1 (c + 4) (s + 24)
  refine Vx.go hC te_368_956 ?_
  refine ⟨by decide, ?_⟩
  have hl4 := LwS.st (j := 5) (v := .int r3) (by omega) hl
  show Vx (Ex S 24) S M_368 [] Q1 958 (px_s1 lv 5 (.int r3)) [] h1 (c + 4) (s + 24)
  refine Vx.go hC te_368_958 ?_
  refine ⟨_, hl4.2.2.1, ⟨143, Or.inl rfl⟩, ?_⟩
  refine sc_load hC (k := 1) hl4 te_368_959 te_368_960 te_368_962 te_368_963 te_368_964 (sc_in hS hi (by decide)) ?_
  refine sc_load hC (k := 2) hl4 te_368_965 te_368_966 te_368_968 te_368_969 te_368_970 (sc_in hS hi (by decide)) ?_
  refine Vx.go hC te_368_971 ?_
  obtain ⟨gs8, gs8g⟩ := hL2.obj (A := 143) rfl
  have hcall9 := ref_call (S := S) (n := 24) (μ := 280) (args := [.inr 143, .inl ((S.2 (i + Int32.ofInt 1).toNatClampNeg) : Int32).toInt, .inl ((S.2 (i + Int32.ofInt 2).toNatClampNeg) : Int32).toInt]) (h := h1) (fun v hv => by simp only [List.mem_cons, List.not_mem_nil, or_false] at hv; rcases hv with rfl | rfl | rfl <;> first | trivial | exact wiI _) hL2 (fun mem hr => f_280 hr (fun r m' a b => ⟨a, b⟩))
  simp only [List.map_cons, List.map_nil, wv, Int32.ofInt_toInt] at hcall9
  refine p_call_mk (av := [.ref 143, .int (S.2 (i + Int32.ofInt 1).toNatClampNeg), .int (S.2 (i + Int32.ofInt 2).toNatClampNeg)]) (rest := []) mt_280 rfl (by decide) (show (c + 4) + 0 ≤ 601024 by omega) (show (s + 24) + 0 ≤ 7293033 by omega) (fun _ => ⟨143, gs8, rfl, gs8g⟩) ?_
  refine hC _ _ _ _ _ ?_ hcall9
  rintro _ h5 ⟨hL6, r7, rfl⟩
  show Vx (Ex S 24) S M_368 [] Q1 974 (px_s1 lv 5 (.int r3)) [.int r7] h5 (c + 4) (s + 24)
  refine Vx.go hC te_368_974 ?_
  refine ⟨by decide, ?_⟩
  have hl10 := LwS.st (j := 6) (v := .int r7) (by omega) hl4
  show Vx (Ex S 24) S M_368 [] Q1 976 (px_s1 (px_s1 lv 5 (.int r3)) 6 (.int r7)) [] h5 (c + 4) (s + 24)
  refine Vx.go hC te_368_976 ?_
  refine ⟨by decide, ?_⟩
  exact Nx _ _ _ _ hl10 hL6 (by omega) (by omega)
theorem lc_18 {S : Nat × (Nat → Int32)} {lv : LV} {h : PH} {c s : Nat} {i : Int32} (hS : S.1 ≤ 3072) (hl : LwS lv i) (hi : 0 ≤ i.toInt ∧ i.toInt + 5 < S.1) (hL : LR h) (hc : c + 8 ≤ 601024) (hs : s + 48 ≤ 7293033) (Nx : ∀ lv' h' c' s', LwS lv' i → LR h' → c' ≤ c + 8 → s' ≤ s + 48 → Vx (Ex S 24) S M_368 [] Q1 2316 lv' [] h' c' s') : Vx (Ex S 24) S M_368 [] Q1 979 lv [] h c s := by
  have hC := Ex.mono S 24
  refine Vx.go hC te_368_979 ?_
  refine ⟨_, hl.2.1, ⟨0, Or.inl rfl⟩, ?_⟩
  refine sc_load hC (k := 1) hl te_368_980 te_368_981 te_368_983 te_368_984 te_368_985 (sc_in hS hi (by decide)) ?_
  refine Vx.go hC te_368_986 ?_
  refine ⟨_, hl.2.2.2.1, ⟨173, Or.inl rfl⟩, ?_⟩
  refine Vx.go hC te_368_987 ?_
  refine Or.inr ⟨by decide, ?_⟩
  refine p_call_mk (av := [.ref 0, .int (S.2 (i + Int32.ofInt 1).toNatClampNeg), .ref 173]) (rest := []) mt_135 rfl (by decide) (show c + 3 ≤ 601024 by omega) (show s + 18 ≤ 7293033 by omega) (fun q => by cases q) ?_
  refine g_135 (n := 6) hL (fun r3 h1 hL2 => ?_)
  show Vx (Ex S 24) S M_368 [] Q1 990 lv [.int r3] h1 (c + 3) (s + 18)
  refine Vx.go hC te_368_990 ?_
  refine ⟨by decide, ?_⟩
  have hl4 := LwS.st (j := 5) (v := .int r3) (by omega) hl
  show Vx (Ex S 24) S M_368 [] Q1 992 (px_s1 lv 5 (.int r3)) [] h1 (c + 3) (s + 18)
  refine Vx.go hC te_368_992 ?_
  refine ⟨_, hl4.2.2.1, ⟨143, Or.inl rfl⟩, ?_⟩
  refine sc_load hC (k := 1) hl4 te_368_993 te_368_994 te_368_996 te_368_997 te_368_998 (sc_in hS hi (by decide)) ?_
  refine Vx.go hC te_368_999 ?_
  obtain ⟨gs8, gs8g⟩ := hL2.obj (A := 143) rfl
  have hcall9 := ref_call (S := S) (n := 24) (μ := 292) (args := [.inr 143, .inl ((S.2 (i + Int32.ofInt 1).toNatClampNeg) : Int32).toInt]) (h := h1) (fun v hv => by simp only [List.mem_cons, List.not_mem_nil, or_false] at hv; rcases hv with rfl | rfl <;> first | trivial | exact wiI _) hL2 (fun mem hr => f_292 hr (fun r m' a b => ⟨a, b⟩))
  simp only [List.map_cons, List.map_nil, wv, Int32.ofInt_toInt] at hcall9
  refine p_call_mk (av := [.ref 143, .int (S.2 (i + Int32.ofInt 1).toNatClampNeg)]) (rest := []) mt_292 rfl (by decide) (show (c + 3) + 0 ≤ 601024 by omega) (show (s + 18) + 0 ≤ 7293033 by omega) (fun _ => ⟨143, gs8, rfl, gs8g⟩) ?_
  refine hC _ _ _ _ _ ?_ hcall9
  rintro _ h5 ⟨hL6, r7, rfl⟩
  show Vx (Ex S 24) S M_368 [] Q1 1002 (px_s1 lv 5 (.int r3)) [.int r7] h5 (c + 3) (s + 18)
  refine Vx.go hC te_368_1002 ?_
  refine ⟨by decide, ?_⟩
  have hl10 := LwS.st (j := 6) (v := .int r7) (by omega) hl4
  show Vx (Ex S 24) S M_368 [] Q1 1004 (px_s1 (px_s1 lv 5 (.int r3)) 6 (.int r7)) [] h5 (c + 3) (s + 18)
  refine Vx.go hC te_368_1004 ?_
  refine ⟨by decide, ?_⟩
  exact Nx _ _ _ _ hl10 hL6 (by omega) (by omega)
theorem lc_19 {S : Nat × (Nat → Int32)} {lv : LV} {h : PH} {c s : Nat} {i : Int32} (hS : S.1 ≤ 3072) (hl : LwS lv i) (hi : 0 ≤ i.toInt ∧ i.toInt + 5 < S.1) (hL : LR h) (hc : c + 8 ≤ 601024) (hs : s + 48 ≤ 7293033) (Nx : ∀ lv' h' c' s', LwS lv' i → LR h' → c' ≤ c + 8 → s' ≤ s + 48 → Vx (Ex S 24) S M_368 [] Q1 2316 lv' [] h' c' s') : Vx (Ex S 24) S M_368 [] Q1 1007 lv [] h c s := by
  have hC := Ex.mono S 24
  refine Vx.go hC te_368_1007 ?_
  refine ⟨_, hl.2.1, ⟨0, Or.inl rfl⟩, ?_⟩
  refine Vx.go hC te_368_1008 ?_
  refine ⟨_, hl.2.2.2.1, ⟨173, Or.inl rfl⟩, ?_⟩
  refine Vx.go hC te_368_1009 ?_
  refine Or.inr ⟨by decide, ?_⟩
  refine p_call_mk (av := [.ref 0, .ref 173]) (rest := []) mt_137 rfl (by decide) (show c + 1 ≤ 601024 by omega) (show s + 6 ≤ 7293033 by omega) (fun q => by cases q) ?_
  refine g_137 (n := 6) hL (fun r3 h1 hL2 => ?_)
  show Vx (Ex S 24) S M_368 [] Q1 1012 lv [.int r3] h1 (c + 1) (s + 6)
  refine Vx.go hC te_368_1012 ?_
  refine ⟨by decide, ?_⟩
  have hl4 := LwS.st (j := 5) (v := .int r3) (by omega) hl
  show Vx (Ex S 24) S M_368 [] Q1 1014 (px_s1 lv 5 (.int r3)) [] h1 (c + 1) (s + 6)
  refine Vx.go hC te_368_1014 ?_
  refine ⟨_, hl4.2.2.1, ⟨143, Or.inl rfl⟩, ?_⟩
  refine Vx.go hC te_368_1015 ?_
  obtain ⟨gs8, gs8g⟩ := hL2.obj (A := 143) rfl
  have hcall9 := ref_call (S := S) (n := 24) (μ := 293) (args := [.inr 143]) (h := h1) (fun v hv => by simp only [List.mem_cons, List.not_mem_nil, or_false] at hv; rw [hv]; trivial) hL2 (fun mem hr => f_293 hr (fun r m' a b => ⟨a, b⟩))
  simp only [List.map_cons, List.map_nil, wv, Int32.ofInt_toInt] at hcall9
  refine p_call_mk (av := [.ref 143]) (rest := []) mt_293 rfl (by decide) (show (c + 1) + 0 ≤ 601024 by omega) (show (s + 6) + 0 ≤ 7293033 by omega) (fun _ => ⟨143, gs8, rfl, gs8g⟩) ?_
  refine hC _ _ _ _ _ ?_ hcall9
  rintro _ h5 ⟨hL6, r7, rfl⟩
  show Vx (Ex S 24) S M_368 [] Q1 1018 (px_s1 lv 5 (.int r3)) [.int r7] h5 (c + 1) (s + 6)
  refine Vx.go hC te_368_1018 ?_
  refine ⟨by decide, ?_⟩
  have hl10 := LwS.st (j := 6) (v := .int r7) (by omega) hl4
  show Vx (Ex S 24) S M_368 [] Q1 1020 (px_s1 (px_s1 lv 5 (.int r3)) 6 (.int r7)) [] h5 (c + 1) (s + 6)
  refine Vx.go hC te_368_1020 ?_
  refine ⟨by decide, ?_⟩
  exact Nx _ _ _ _ hl10 hL6 (by omega) (by omega)
theorem lc_20 {S : Nat × (Nat → Int32)} {lv : LV} {h : PH} {c s : Nat} {i : Int32} (hS : S.1 ≤ 3072) (hl : LwS lv i) (hi : 0 ≤ i.toInt ∧ i.toInt + 5 < S.1) (hL : LR h) (hc : c + 8 ≤ 601024) (hs : s + 48 ≤ 7293033) (Nx : ∀ lv' h' c' s', LwS lv' i → LR h' → c' ≤ c + 8 → s' ≤ s + 48 → Vx (Ex S 24) S M_368 [] Q1 2316 lv' [] h' c' s') : Vx (Ex S 24) S M_368 [] Q1 1023 lv [] h c s := by
  have hC := Ex.mono S 24
  refine Vx.go hC te_368_1023 ?_
  refine ⟨_, hl.2.1, ⟨0, Or.inl rfl⟩, ?_⟩
  refine sc_load hC (k := 1) hl te_368_1024 te_368_1025 te_368_1027 te_368_1028 te_368_1029 (sc_in hS hi (by decide)) ?_
  refine sc_load hC (k := 2) hl te_368_1030 te_368_1031 te_368_1033 te_368_1034 te_368_1035 (sc_in hS hi (by decide)) ?_
  refine Vx.go hC te_368_1036 ?_
  refine ⟨_, hl.2.2.2.1, ⟨173, Or.inl rfl⟩, ?_⟩
  refine Vx.go hC te_368_1037 ?_
  refine Or.inr ⟨by decide, ?_⟩
  refine p_call_mk (av := [.ref 0, .int (S.2 (i + Int32.ofInt 1).toNatClampNeg), .int (S.2 (i + Int32.ofInt 2).toNatClampNeg), .ref 173]) (rest := []) mt_139 rfl (by decide) (show c + 4 ≤ 601024 by omega) (show s + 24 ≤ 7293033 by omega) (fun q => by cases q) ?_
  refine g_139 (n := 6) hL (fun r3 h1 hL2 => ?_)
  show Vx (Ex S 24) S M_368 [] Q1 1040 lv [.int r3] h1 (c + 4) (s + 24)
  refine Vx.go hC te_368_1040 ?_
  refine ⟨by decide, ?_⟩
  have hl4 := LwS.st (j := 5) (v := .int r3) (by omega) hl
  show Vx (Ex S 24) S M_368 [] Q1 1042 (px_s1 lv 5 (.int r3)) [] h1 (c + 4) (s + 24)
  refine Vx.go hC te_368_1042 ?_
  refine ⟨_, hl4.2.2.1, ⟨143, Or.inl rfl⟩, ?_⟩
  refine sc_load hC (k := 1) hl4 te_368_1043 te_368_1044 te_368_1046 te_368_1047 te_368_1048 (sc_in hS hi (by decide)) ?_
  refine sc_load hC (k := 2) hl4 te_368_1049 te_368_1050 te_368_1052 te_368_1053 te_368_1054 (sc_in hS hi (by decide)) ?_
  refine Vx.go hC te_368_1055 ?_
  obtain ⟨gs8, gs8g⟩ := hL2.obj (A := 143) rfl
  have hcall9 := ref_call (S := S) (n := 24) (μ := 294) (args := [.inr 143, .inl ((S.2 (i + Int32.ofInt 1).toNatClampNeg) : Int32).toInt, .inl ((S.2 (i + Int32.ofInt 2).toNatClampNeg) : Int32).toInt]) (h := h1) (fun v hv => by simp only [List.mem_cons, List.not_mem_nil, or_false] at hv; rcases hv with rfl | rfl | rfl <;> first | trivial | exact wiI _) hL2 (fun mem hr => f_294 hr (fun r m' a b => ⟨a, b⟩))
  simp only [List.map_cons, List.map_nil, wv, Int32.ofInt_toInt] at hcall9
  refine p_call_mk (av := [.ref 143, .int (S.2 (i + Int32.ofInt 1).toNatClampNeg), .int (S.2 (i + Int32.ofInt 2).toNatClampNeg)]) (rest := []) mt_294 rfl (by decide) (show (c + 4) + 0 ≤ 601024 by omega) (show (s + 24) + 0 ≤ 7293033 by omega) (fun _ => ⟨143, gs8, rfl, gs8g⟩) ?_
  refine hC _ _ _ _ _ ?_ hcall9
  rintro _ h5 ⟨hL6, r7, rfl⟩
  show Vx (Ex S 24) S M_368 [] Q1 1058 (px_s1 lv 5 (.int r3)) [.int r7] h5 (c + 4) (s + 24)
  refine Vx.go hC te_368_1058 ?_
  refine ⟨by decide, ?_⟩
  have hl10 := LwS.st (j := 6) (v := .int r7) (by omega) hl4
  show Vx (Ex S 24) S M_368 [] Q1 1060 (px_s1 (px_s1 lv 5 (.int r3)) 6 (.int r7)) [] h5 (c + 4) (s + 24)
  refine Vx.go hC te_368_1060 ?_
  refine ⟨by decide, ?_⟩
  exact Nx _ _ _ _ hl10 hL6 (by omega) (by omega)
