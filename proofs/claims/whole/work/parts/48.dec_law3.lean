theorem d_La_law_647 : decode b_La_law 647 = .ok (.invokevirtual 95, 3) := by decide +kernel
theorem d_La_law_650 : decode b_La_law 650 = .ok (.aload_n 2, 1) := by decide +kernel
theorem d_La_law_651 : decode b_La_law 651 = .ok (.invokevirtual 98, 3) := by decide +kernel
theorem d_La_law_654 : decode b_La_law 654 = .ok (.if_icmp .eq 164, 3) := by decide +kernel
theorem d_La_law_657 : decode b_La_law 657 = .ok (.iconst 0, 1) := by decide +kernel
theorem d_La_law_658 : decode b_La_law 658 = .ok (.ireturn, 1) := by decide +kernel
theorem d_La_law_659 : decode b_La_law 659 = .ok (.aload_n 1, 1) := by decide +kernel
theorem d_La_law_660 : decode b_La_law 660 = .ok (.aload_n 0, 1) := by decide +kernel
theorem d_La_law_661 : decode b_La_law 661 = .ok (.iload 4, 2) := by decide +kernel
theorem d_La_law_663 : decode b_La_law 663 = .ok (.iconst 1, 1) := by decide +kernel
theorem d_La_law_664 : decode b_La_law 664 = .ok (.iadd, 1) := by decide +kernel
theorem d_La_law_665 : decode b_La_law 665 = .ok (.iaload, 1) := by decide +kernel
theorem d_La_law_666 : decode b_La_law 666 = .ok (.aload_n 3, 1) := by decide +kernel
theorem d_La_law_667 : decode b_La_law 667 = .ok (.invokestatic 99, 3) := by decide +kernel
theorem d_La_law_670 : decode b_La_law 670 = .ok (.istore 5, 2) := by decide +kernel
theorem d_La_law_672 : decode b_La_law 672 = .ok (.aload_n 2, 1) := by decide +kernel
theorem d_La_law_673 : decode b_La_law 673 = .ok (.aload_n 0, 1) := by decide +kernel
theorem d_La_law_674 : decode b_La_law 674 = .ok (.iload 4, 2) := by decide +kernel
theorem d_La_law_676 : decode b_La_law 676 = .ok (.iconst 1, 1) := by decide +kernel
theorem d_La_law_677 : decode b_La_law 677 = .ok (.iadd, 1) := by decide +kernel
theorem d_La_law_678 : decode b_La_law 678 = .ok (.iaload, 1) := by decide +kernel
theorem d_La_law_679 : decode b_La_law 679 = .ok (.invokevirtual 102, 3) := by decide +kernel
theorem d_La_law_682 : decode b_La_law 682 = .ok (.istore 6, 2) := by decide +kernel
theorem d_La_law_684 : decode b_La_law 684 = .ok (.aload_n 2, 1) := by decide +kernel
theorem d_La_law_685 : decode b_La_law 685 = .ok (.invokevirtual 64, 3) := by decide +kernel
theorem d_La_law_688 : decode b_La_law 688 = .ok (.iload 5, 2) := by decide +kernel
theorem d_La_law_690 : decode b_La_law 690 = .ok (.if_icmp .eq 5, 3) := by decide +kernel
theorem d_La_law_693 : decode b_La_law 693 = .ok (.iconst 0, 1) := by decide +kernel
theorem d_La_law_694 : decode b_La_law 694 = .ok (.ireturn, 1) := by decide +kernel
theorem d_La_law_695 : decode b_La_law 695 = .ok (.iload 5, 2) := by decide +kernel
theorem d_La_law_697 : decode b_La_law 697 = .ok (.ifCond .ne 15, 3) := by decide +kernel
theorem d_La_law_700 : decode b_La_law 700 = .ok (.aload_n 3, 1) := by decide +kernel
theorem d_La_law_701 : decode b_La_law 701 = .ok (.iconst 0, 1) := by decide +kernel
theorem d_La_law_702 : decode b_La_law 702 = .ok (.laload, 1) := by decide +kernel
theorem d_La_law_703 : decode b_La_law 703 = .ok (.iload 6, 2) := by decide +kernel
theorem d_La_law_705 : decode b_La_law 705 = .ok (.i2l, 1) := by decide +kernel
theorem d_La_law_706 : decode b_La_law 706 = .ok (.lcmp, 1) := by decide +kernel
theorem d_La_law_707 : decode b_La_law 707 = .ok (.ifCond .eq 5, 3) := by decide +kernel
theorem d_La_law_710 : decode b_La_law 710 = .ok (.iconst 0, 1) := by decide +kernel
theorem d_La_law_711 : decode b_La_law 711 = .ok (.ireturn, 1) := by decide +kernel
theorem d_La_law_712 : decode b_La_law 712 = .ok (.goto 106, 3) := by decide +kernel
theorem d_La_law_715 : decode b_La_law 715 = .ok (.aload_n 1, 1) := by decide +kernel
theorem d_La_law_716 : decode b_La_law 716 = .ok (.aload_n 0, 1) := by decide +kernel
theorem d_La_law_717 : decode b_La_law 717 = .ok (.iload 4, 2) := by decide +kernel
theorem d_La_law_719 : decode b_La_law 719 = .ok (.iconst 1, 1) := by decide +kernel
theorem d_La_law_720 : decode b_La_law 720 = .ok (.iadd, 1) := by decide +kernel
theorem d_La_law_721 : decode b_La_law 721 = .ok (.iaload, 1) := by decide +kernel
theorem d_La_law_722 : decode b_La_law 722 = .ok (.aload_n 0, 1) := by decide +kernel
theorem d_La_law_723 : decode b_La_law 723 = .ok (.iload 4, 2) := by decide +kernel
theorem d_La_law_725 : decode b_La_law 725 = .ok (.iconst 2, 1) := by decide +kernel
theorem d_La_law_726 : decode b_La_law 726 = .ok (.iadd, 1) := by decide +kernel
theorem d_La_law_727 : decode b_La_law 727 = .ok (.iaload, 1) := by decide +kernel
theorem d_La_law_728 : decode b_La_law 728 = .ok (.aload_n 3, 1) := by decide +kernel
theorem d_La_law_729 : decode b_La_law 729 = .ok (.invokestatic 103, 3) := by decide +kernel
theorem d_La_law_732 : decode b_La_law 732 = .ok (.istore 5, 2) := by decide +kernel
theorem d_La_law_734 : decode b_La_law 734 = .ok (.aload_n 2, 1) := by decide +kernel
theorem d_La_law_735 : decode b_La_law 735 = .ok (.aload_n 0, 1) := by decide +kernel
theorem d_La_law_736 : decode b_La_law 736 = .ok (.iload 4, 2) := by decide +kernel
theorem d_La_law_738 : decode b_La_law 738 = .ok (.iconst 1, 1) := by decide +kernel
theorem d_La_law_739 : decode b_La_law 739 = .ok (.iadd, 1) := by decide +kernel
theorem d_La_law_740 : decode b_La_law 740 = .ok (.iaload, 1) := by decide +kernel
theorem d_La_law_741 : decode b_La_law 741 = .ok (.aload_n 0, 1) := by decide +kernel
theorem d_La_law_742 : decode b_La_law 742 = .ok (.iload 4, 2) := by decide +kernel
theorem d_La_law_744 : decode b_La_law 744 = .ok (.iconst 2, 1) := by decide +kernel
theorem d_La_law_745 : decode b_La_law 745 = .ok (.iadd, 1) := by decide +kernel
theorem d_La_law_746 : decode b_La_law 746 = .ok (.iaload, 1) := by decide +kernel
theorem d_La_law_747 : decode b_La_law 747 = .ok (.invokevirtual 105, 3) := by decide +kernel
theorem d_La_law_750 : decode b_La_law 750 = .ok (.lstore 6, 2) := by decide +kernel
theorem d_La_law_752 : decode b_La_law 752 = .ok (.aload_n 2, 1) := by decide +kernel
theorem d_La_law_753 : decode b_La_law 753 = .ok (.invokevirtual 64, 3) := by decide +kernel
theorem d_La_law_756 : decode b_La_law 756 = .ok (.iload 5, 2) := by decide +kernel
theorem d_La_law_758 : decode b_La_law 758 = .ok (.if_icmp .eq 5, 3) := by decide +kernel
theorem d_La_law_761 : decode b_La_law 761 = .ok (.iconst 0, 1) := by decide +kernel
theorem d_La_law_762 : decode b_La_law 762 = .ok (.ireturn, 1) := by decide +kernel
theorem d_La_law_763 : decode b_La_law 763 = .ok (.iload 5, 2) := by decide +kernel
theorem d_La_law_765 : decode b_La_law 765 = .ok (.ifCond .ne 14, 3) := by decide +kernel
theorem d_La_law_768 : decode b_La_law 768 = .ok (.aload_n 3, 1) := by decide +kernel
theorem d_La_law_769 : decode b_La_law 769 = .ok (.iconst 0, 1) := by decide +kernel
theorem d_La_law_770 : decode b_La_law 770 = .ok (.laload, 1) := by decide +kernel
theorem d_La_law_771 : decode b_La_law 771 = .ok (.lload 6, 2) := by decide +kernel
theorem d_La_law_773 : decode b_La_law 773 = .ok (.lcmp, 1) := by decide +kernel
theorem d_La_law_774 : decode b_La_law 774 = .ok (.ifCond .eq 5, 3) := by decide +kernel
theorem d_La_law_777 : decode b_La_law 777 = .ok (.iconst 0, 1) := by decide +kernel
theorem d_La_law_778 : decode b_La_law 778 = .ok (.ireturn, 1) := by decide +kernel
theorem d_La_law_779 : decode b_La_law 779 = .ok (.goto 39, 3) := by decide +kernel
theorem d_La_law_782 : decode b_La_law 782 = .ok (.aload_n 1, 1) := by decide +kernel
theorem d_La_law_783 : decode b_La_law 783 = .ok (.aload_n 0, 1) := by decide +kernel
theorem d_La_law_784 : decode b_La_law 784 = .ok (.iload 4, 2) := by decide +kernel
theorem d_La_law_786 : decode b_La_law 786 = .ok (.iconst 1, 1) := by decide +kernel
theorem d_La_law_787 : decode b_La_law 787 = .ok (.iadd, 1) := by decide +kernel
theorem d_La_law_788 : decode b_La_law 788 = .ok (.iaload, 1) := by decide +kernel
theorem d_La_law_789 : decode b_La_law 789 = .ok (.invokevirtual 106, 3) := by decide +kernel
theorem d_La_law_792 : decode b_La_law 792 = .ok (.aload_n 2, 1) := by decide +kernel
theorem d_La_law_793 : decode b_La_law 793 = .ok (.aload_n 0, 1) := by decide +kernel
theorem d_La_law_794 : decode b_La_law 794 = .ok (.iload 4, 2) := by decide +kernel
theorem d_La_law_796 : decode b_La_law 796 = .ok (.iconst 1, 1) := by decide +kernel
theorem d_La_law_797 : decode b_La_law 797 = .ok (.iadd, 1) := by decide +kernel
theorem d_La_law_798 : decode b_La_law 798 = .ok (.iaload, 1) := by decide +kernel
theorem d_La_law_799 : decode b_La_law 799 = .ok (.invokevirtual 109, 3) := by decide +kernel
theorem d_La_law_802 : decode b_La_law 802 = .ok (.if_icmp .eq 16, 3) := by decide +kernel
theorem d_La_law_805 : decode b_La_law 805 = .ok (.iconst 0, 1) := by decide +kernel
theorem d_La_law_806 : decode b_La_law 806 = .ok (.ireturn, 1) := by decide +kernel
theorem d_La_law_807 : decode b_La_law 807 = .ok (.aload_n 1, 1) := by decide +kernel
theorem d_La_law_808 : decode b_La_law 808 = .ok (.invokevirtual 110, 3) := by decide +kernel
theorem d_La_law_811 : decode b_La_law 811 = .ok (.aload_n 2, 1) := by decide +kernel
theorem d_La_law_812 : decode b_La_law 812 = .ok (.invokevirtual 113, 3) := by decide +kernel
theorem d_La_law_815 : decode b_La_law 815 = .ok (.goto 3, 3) := by decide +kernel
theorem d_La_law_818 : decode b_La_law 818 = .ok (.iinc 4 4, 3) := by decide +kernel
theorem d_La_law_821 : decode b_La_law 821 = .ok (.goto (-788), 3) := by decide +kernel
theorem d_La_law_824 : decode b_La_law 824 = .ok (.iconst 1, 1) := by decide +kernel
theorem d_La_law_825 : decode b_La_law 825 = .ok (.ireturn, 1) := by decide +kernel
