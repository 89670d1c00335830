/-! the law: what its bytes are, 4 -/
theorem dL_law_688 : decode code 688 = .ok (.aload_n 0, 1) := by decide +kernel
theorem dL_law_689 : decode code 689 = .ok (.iload_n 3, 1) := by decide +kernel
theorem dL_law_690 : decode code 690 = .ok (.iconst 1, 1) := by decide +kernel
theorem dL_law_691 : decode code 691 = .ok (.iadd, 1) := by decide +kernel
theorem dL_law_692 : decode code 692 = .ok (.iaload, 1) := by decide +kernel
theorem dL_law_693 : decode code 693 = .ok (.aload_n 0, 1) := by decide +kernel
theorem dL_law_694 : decode code 694 = .ok (.iload_n 3, 1) := by decide +kernel
theorem dL_law_695 : decode code 695 = .ok (.iconst 2, 1) := by decide +kernel
theorem dL_law_696 : decode code 696 = .ok (.iadd, 1) := by decide +kernel
theorem dL_law_697 : decode code 697 = .ok (.iaload, 1) := by decide +kernel
theorem dL_law_698 : decode code 698 = .ok (.invokevirtual 86, 3) := by decide +kernel
theorem dL_law_701 : decode code 701 = .ok (.aload_n 2, 1) := by decide +kernel
theorem dL_law_702 : decode code 702 = .ok (.aload_n 0, 1) := by decide +kernel
theorem dL_law_703 : decode code 703 = .ok (.iload_n 3, 1) := by decide +kernel
theorem dL_law_704 : decode code 704 = .ok (.iconst 1, 1) := by decide +kernel
theorem dL_law_705 : decode code 705 = .ok (.iadd, 1) := by decide +kernel
theorem dL_law_706 : decode code 706 = .ok (.iaload, 1) := by decide +kernel
theorem dL_law_707 : decode code 707 = .ok (.aload_n 0, 1) := by decide +kernel
theorem dL_law_708 : decode code 708 = .ok (.iload_n 3, 1) := by decide +kernel
theorem dL_law_709 : decode code 709 = .ok (.iconst 2, 1) := by decide +kernel
theorem dL_law_710 : decode code 710 = .ok (.iadd, 1) := by decide +kernel
theorem dL_law_711 : decode code 711 = .ok (.iaload, 1) := by decide +kernel
theorem dL_law_712 : decode code 712 = .ok (.invokevirtual 89, 3) := by decide +kernel
theorem dL_law_715 : decode code 715 = .ok (.if_icmp .eq 556, 3) := by decide +kernel
theorem dL_law_718 : decode code 718 = .ok (.iconst 0, 1) := by decide +kernel
theorem dL_law_719 : decode code 719 = .ok (.ireturn, 1) := by decide +kernel
theorem dL_law_720 : decode code 720 = .ok (.aload_n 1, 1) := by decide +kernel
theorem dL_law_721 : decode code 721 = .ok (.invokevirtual 90, 3) := by decide +kernel
theorem dL_law_724 : decode code 724 = .ok (.aload_n 2, 1) := by decide +kernel
theorem dL_law_725 : decode code 725 = .ok (.invokevirtual 93, 3) := by decide +kernel
theorem dL_law_728 : decode code 728 = .ok (.if_icmp .eq 543, 3) := by decide +kernel
theorem dL_law_731 : decode code 731 = .ok (.iconst 0, 1) := by decide +kernel
theorem dL_law_732 : decode code 732 = .ok (.ireturn, 1) := by decide +kernel
theorem dL_law_733 : decode code 733 = .ok (.aload_n 1, 1) := by decide +kernel
theorem dL_law_734 : decode code 734 = .ok (.invokevirtual 94, 3) := by decide +kernel
theorem dL_law_737 : decode code 737 = .ok (.aload_n 2, 1) := by decide +kernel
theorem dL_law_738 : decode code 738 = .ok (.invokevirtual 97, 3) := by decide +kernel
theorem dL_law_741 : decode code 741 = .ok (.if_icmp .eq 530, 3) := by decide +kernel
theorem dL_law_744 : decode code 744 = .ok (.iconst 0, 1) := by decide +kernel
theorem dL_law_745 : decode code 745 = .ok (.ireturn, 1) := by decide +kernel
theorem dL_law_746 : decode code 746 = .ok (.aload_n 1, 1) := by decide +kernel
theorem dL_law_747 : decode code 747 = .ok (.invokevirtual 98, 3) := by decide +kernel
theorem dL_law_750 : decode code 750 = .ok (.aload_n 2, 1) := by decide +kernel
theorem dL_law_751 : decode code 751 = .ok (.invokevirtual 101, 3) := by decide +kernel
theorem dL_law_754 : decode code 754 = .ok (.if_icmp .eq 517, 3) := by decide +kernel
theorem dL_law_757 : decode code 757 = .ok (.iconst 0, 1) := by decide +kernel
theorem dL_law_758 : decode code 758 = .ok (.ireturn, 1) := by decide +kernel
theorem dL_law_759 : decode code 759 = .ok (.aload_n 1, 1) := by decide +kernel
theorem dL_law_760 : decode code 760 = .ok (.aload_n 0, 1) := by decide +kernel
theorem dL_law_761 : decode code 761 = .ok (.iload_n 3, 1) := by decide +kernel
theorem dL_law_762 : decode code 762 = .ok (.iconst 1, 1) := by decide +kernel
theorem dL_law_763 : decode code 763 = .ok (.iadd, 1) := by decide +kernel
theorem dL_law_764 : decode code 764 = .ok (.iaload, 1) := by decide +kernel
theorem dL_law_765 : decode code 765 = .ok (.invokevirtual 102, 3) := by decide +kernel
theorem dL_law_768 : decode code 768 = .ok (.aload_n 2, 1) := by decide +kernel
theorem dL_law_769 : decode code 769 = .ok (.aload_n 0, 1) := by decide +kernel
theorem dL_law_770 : decode code 770 = .ok (.iload_n 3, 1) := by decide +kernel
theorem dL_law_771 : decode code 771 = .ok (.iconst 1, 1) := by decide +kernel
theorem dL_law_772 : decode code 772 = .ok (.iadd, 1) := by decide +kernel
theorem dL_law_773 : decode code 773 = .ok (.iaload, 1) := by decide +kernel
theorem dL_law_774 : decode code 774 = .ok (.invokevirtual 105, 3) := by decide +kernel
theorem dL_law_777 : decode code 777 = .ok (.if_icmp .eq 494, 3) := by decide +kernel
theorem dL_law_780 : decode code 780 = .ok (.iconst 0, 1) := by decide +kernel
theorem dL_law_781 : decode code 781 = .ok (.ireturn, 1) := by decide +kernel
theorem dL_law_782 : decode code 782 = .ok (.aload_n 1, 1) := by decide +kernel
theorem dL_law_783 : decode code 783 = .ok (.aload_n 0, 1) := by decide +kernel
theorem dL_law_784 : decode code 784 = .ok (.iload_n 3, 1) := by decide +kernel
theorem dL_law_785 : decode code 785 = .ok (.iconst 1, 1) := by decide +kernel
theorem dL_law_786 : decode code 786 = .ok (.iadd, 1) := by decide +kernel
theorem dL_law_787 : decode code 787 = .ok (.iaload, 1) := by decide +kernel
theorem dL_law_788 : decode code 788 = .ok (.invokevirtual 106, 3) := by decide +kernel
theorem dL_law_791 : decode code 791 = .ok (.aload_n 2, 1) := by decide +kernel
theorem dL_law_792 : decode code 792 = .ok (.aload_n 0, 1) := by decide +kernel
theorem dL_law_793 : decode code 793 = .ok (.iload_n 3, 1) := by decide +kernel
theorem dL_law_794 : decode code 794 = .ok (.iconst 1, 1) := by decide +kernel
theorem dL_law_795 : decode code 795 = .ok (.iadd, 1) := by decide +kernel
theorem dL_law_796 : decode code 796 = .ok (.iaload, 1) := by decide +kernel
theorem dL_law_797 : decode code 797 = .ok (.invokevirtual 109, 3) := by decide +kernel
theorem dL_law_800 : decode code 800 = .ok (.if_icmp .eq 471, 3) := by decide +kernel
theorem dL_law_803 : decode code 803 = .ok (.iconst 0, 1) := by decide +kernel
theorem dL_law_804 : decode code 804 = .ok (.ireturn, 1) := by decide +kernel
theorem dL_law_805 : decode code 805 = .ok (.aload_n 1, 1) := by decide +kernel
theorem dL_law_806 : decode code 806 = .ok (.aload_n 0, 1) := by decide +kernel
theorem dL_law_807 : decode code 807 = .ok (.iload_n 3, 1) := by decide +kernel
theorem dL_law_808 : decode code 808 = .ok (.iconst 1, 1) := by decide +kernel
theorem dL_law_809 : decode code 809 = .ok (.iadd, 1) := by decide +kernel
theorem dL_law_810 : decode code 810 = .ok (.iaload, 1) := by decide +kernel
theorem dL_law_811 : decode code 811 = .ok (.aload_n 0, 1) := by decide +kernel
theorem dL_law_812 : decode code 812 = .ok (.iload_n 3, 1) := by decide +kernel
theorem dL_law_813 : decode code 813 = .ok (.iconst 2, 1) := by decide +kernel
theorem dL_law_814 : decode code 814 = .ok (.iadd, 1) := by decide +kernel
theorem dL_law_815 : decode code 815 = .ok (.iaload, 1) := by decide +kernel
theorem dL_law_816 : decode code 816 = .ok (.invokevirtual 110, 3) := by decide +kernel
theorem dL_law_819 : decode code 819 = .ok (.aload_n 2, 1) := by decide +kernel
theorem dL_law_820 : decode code 820 = .ok (.aload_n 0, 1) := by decide +kernel
theorem dL_law_821 : decode code 821 = .ok (.iload_n 3, 1) := by decide +kernel
theorem dL_law_822 : decode code 822 = .ok (.iconst 1, 1) := by decide +kernel
theorem dL_law_823 : decode code 823 = .ok (.iadd, 1) := by decide +kernel
theorem dL_law_824 : decode code 824 = .ok (.iaload, 1) := by decide +kernel
theorem dL_law_825 : decode code 825 = .ok (.aload_n 0, 1) := by decide +kernel
