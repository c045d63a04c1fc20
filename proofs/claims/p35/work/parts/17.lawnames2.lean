theorem dL_law_584 : decode cL_law 584 = .ok (.aload 28, 2) := by decide +kernel
theorem dL_law_586 : decode cL_law 586 = .ok (.invokevirtual 19, 3) := by decide +kernel
theorem dL_law_589 : decode cL_law 589 = .ok (.if_icmp .eq 5, 3) := by decide +kernel
theorem dL_law_592 : decode cL_law 592 = .ok (.iconst 0, 1) := by decide +kernel
theorem dL_law_593 : decode cL_law 593 = .ok (.ireturn, 1) := by decide +kernel
theorem dL_law_594 : decode cL_law 594 = .ok (.iconst 0, 1) := by decide +kernel
theorem dL_law_595 : decode cL_law 595 = .ok (.istore 29, 2) := by decide +kernel
theorem dL_law_597 : decode cL_law 597 = .ok (.iload 29, 2) := by decide +kernel
theorem dL_law_599 : decode cL_law 599 = .ok (.aload 28, 2) := by decide +kernel
theorem dL_law_601 : decode cL_law 601 = .ok (.invokevirtual 19, 3) := by decide +kernel
theorem dL_law_604 : decode cL_law 604 = .ok (.if_icmp .ge 27, 3) := by decide +kernel
theorem dL_law_607 : decode cL_law 607 = .ok (.aload_n 1, 1) := by decide +kernel
theorem dL_law_608 : decode cL_law 608 = .ok (.iload 29, 2) := by decide +kernel
theorem dL_law_610 : decode cL_law 610 = .ok (.invokevirtual 151, 3) := by decide +kernel
theorem dL_law_613 : decode cL_law 613 = .ok (.aload 28, 2) := by decide +kernel
theorem dL_law_615 : decode cL_law 615 = .ok (.iload 29, 2) := by decide +kernel
theorem dL_law_617 : decode cL_law 617 = .ok (.invokevirtual 25, 3) := by decide +kernel
theorem dL_law_620 : decode cL_law 620 = .ok (.if_icmp .eq 5, 3) := by decide +kernel
theorem dL_law_623 : decode cL_law 623 = .ok (.iconst 0, 1) := by decide +kernel
theorem dL_law_624 : decode cL_law 624 = .ok (.ireturn, 1) := by decide +kernel
theorem dL_law_625 : decode cL_law 625 = .ok (.iinc 29 1, 3) := by decide +kernel
theorem dL_law_628 : decode cL_law 628 = .ok (.goto (-31), 3) := by decide +kernel
theorem dL_law_631 : decode cL_law 631 = .ok (.iload 7, 2) := by decide +kernel
theorem dL_law_633 : decode cL_law 633 = .ok (.iload 23, 2) := by decide +kernel
theorem dL_law_635 : decode cL_law 635 = .ok (.iadd, 1) := by decide +kernel
theorem dL_law_636 : decode cL_law 636 = .ok (.istore 7, 2) := by decide +kernel
theorem dL_law_638 : decode cL_law 638 = .ok (.aload 18, 2) := by decide +kernel
theorem dL_law_640 : decode cL_law 640 = .ok (.iload 27, 2) := by decide +kernel
theorem dL_law_642 : decode cL_law 642 = .ok (.ifCond .ge 7, 3) := by decide +kernel
theorem dL_law_645 : decode cL_law 645 = .ok (.iconst 2, 1) := by decide +kernel
theorem dL_law_646 : decode cL_law 646 = .ok (.goto 15, 3) := by decide +kernel
theorem dL_law_649 : decode cL_law 649 = .ok (.iload 27, 2) := by decide +kernel
theorem dL_law_651 : decode cL_law 651 = .ok (.iload 25, 2) := by decide +kernel
theorem dL_law_653 : decode cL_law 653 = .ok (.if_icmp .ne 7, 3) := by decide +kernel
theorem dL_law_656 : decode cL_law 656 = .ok (.iconst 0, 1) := by decide +kernel
theorem dL_law_657 : decode cL_law 657 = .ok (.goto 4, 3) := by decide +kernel
theorem dL_law_660 : decode cL_law 660 = .ok (.iconst 1, 1) := by decide +kernel
theorem dL_law_661 : decode cL_law 661 = .ok (.dup2, 1) := by decide +kernel
theorem dL_law_662 : decode cL_law 662 = .ok (.iaload, 1) := by decide +kernel
theorem dL_law_663 : decode cL_law 663 = .ok (.iconst 1, 1) := by decide +kernel
theorem dL_law_664 : decode cL_law 664 = .ok (.iadd, 1) := by decide +kernel
theorem dL_law_665 : decode cL_law 665 = .ok (.iastore, 1) := by decide +kernel
theorem dL_law_666 : decode cL_law 666 = .ok (.iload 25, 2) := by decide +kernel
theorem dL_law_668 : decode cL_law 668 = .ok (.ifCond .lt 22, 3) := by decide +kernel
theorem dL_law_671 : decode cL_law 671 = .ok (.aload 14, 2) := by decide +kernel
theorem dL_law_673 : decode cL_law 673 = .ok (.iload 25, 2) := by decide +kernel
theorem dL_law_675 : decode cL_law 675 = .ok (.dup2, 1) := by decide +kernel
theorem dL_law_676 : decode cL_law 676 = .ok (.iaload, 1) := by decide +kernel
theorem dL_law_677 : decode cL_law 677 = .ok (.iconst 1, 1) := by decide +kernel
theorem dL_law_678 : decode cL_law 678 = .ok (.iadd, 1) := by decide +kernel
theorem dL_law_679 : decode cL_law 679 = .ok (.iastore, 1) := by decide +kernel
theorem dL_law_680 : decode cL_law 680 = .ok (.aload 15, 2) := by decide +kernel
theorem dL_law_682 : decode cL_law 682 = .ok (.iload 25, 2) := by decide +kernel
theorem dL_law_684 : decode cL_law 684 = .ok (.dup2, 1) := by decide +kernel
theorem dL_law_685 : decode cL_law 685 = .ok (.iaload, 1) := by decide +kernel
theorem dL_law_686 : decode cL_law 686 = .ok (.iload 23, 2) := by decide +kernel
theorem dL_law_688 : decode cL_law 688 = .ok (.iadd, 1) := by decide +kernel
theorem dL_law_689 : decode cL_law 689 = .ok (.iastore, 1) := by decide +kernel
theorem dL_law_690 : decode cL_law 690 = .ok (.iload 27, 2) := by decide +kernel
theorem dL_law_692 : decode cL_law 692 = .ok (.ifCond .ge 6, 3) := by decide +kernel
theorem dL_law_695 : decode cL_law 695 = .ok (.goto 65, 3) := by decide +kernel
theorem dL_law_698 : decode cL_law 698 = .ok (.aload 20, 2) := by decide +kernel
theorem dL_law_700 : decode cL_law 700 = .ok (.iload 27, 2) := by decide +kernel
theorem dL_law_702 : decode cL_law 702 = .ok (.new 112, 3) := by decide +kernel
theorem dL_law_705 : decode cL_law 705 = .ok (.dup, 1) := by decide +kernel
theorem dL_law_706 : decode cL_law 706 = .ok (.invokespecial 114, 3) := by decide +kernel
theorem dL_law_709 : decode cL_law 709 = .ok (.aload 20, 2) := by decide +kernel
theorem dL_law_711 : decode cL_law 711 = .ok (.iload 27, 2) := by decide +kernel
theorem dL_law_713 : decode cL_law 713 = .ok (.aaload, 1) := by decide +kernel
theorem dL_law_714 : decode cL_law 714 = .ok (.invokevirtual 120, 3) := by decide +kernel
theorem dL_law_717 : decode cL_law 717 = .ok (.aload 16, 2) := by decide +kernel
theorem dL_law_719 : decode cL_law 719 = .ok (.iload 27, 2) := by decide +kernel
theorem dL_law_721 : decode cL_law 721 = .ok (.iaload, 1) := by decide +kernel
theorem dL_law_722 : decode cL_law 722 = .ok (.ifCond .le 8, 3) := by decide +kernel
theorem dL_law_725 : decode cL_law 725 = .ok (.ldc 154, 2) := by decide +kernel
theorem dL_law_727 : decode cL_law 727 = .ok (.goto 5, 3) := by decide +kernel
theorem dL_law_730 : decode cL_law 730 = .ok (.ldc 123, 2) := by decide +kernel
theorem dL_law_732 : decode cL_law 732 = .ok (.invokevirtual 120, 3) := by decide +kernel
theorem dL_law_735 : decode cL_law 735 = .ok (.iload 21, 2) := by decide +kernel
theorem dL_law_737 : decode cL_law 737 = .ok (.invokevirtual 115, 3) := by decide +kernel
theorem dL_law_740 : decode cL_law 740 = .ok (.invokevirtual 129, 3) := by decide +kernel
theorem dL_law_743 : decode cL_law 743 = .ok (.aastore, 1) := by decide +kernel
theorem dL_law_744 : decode cL_law 744 = .ok (.aload 16, 2) := by decide +kernel
theorem dL_law_746 : decode cL_law 746 = .ok (.iload 27, 2) := by decide +kernel
theorem dL_law_748 : decode cL_law 748 = .ok (.dup2, 1) := by decide +kernel
theorem dL_law_749 : decode cL_law 749 = .ok (.iaload, 1) := by decide +kernel
theorem dL_law_750 : decode cL_law 750 = .ok (.iconst 1, 1) := by decide +kernel
theorem dL_law_751 : decode cL_law 751 = .ok (.iadd, 1) := by decide +kernel
theorem dL_law_752 : decode cL_law 752 = .ok (.iastore, 1) := by decide +kernel
theorem dL_law_753 : decode cL_law 753 = .ok (.iload 8, 2) := by decide +kernel
theorem dL_law_755 : decode cL_law 755 = .ok (.iload 23, 2) := by decide +kernel
theorem dL_law_757 : decode cL_law 757 = .ok (.iadd, 1) := by decide +kernel
theorem dL_law_758 : decode cL_law 758 = .ok (.istore 8, 2) := by decide +kernel
theorem dL_law_760 : decode cL_law 760 = .ok (.iinc 21 1, 3) := by decide +kernel
theorem dL_law_763 : decode cL_law 763 = .ok (.goto (-507), 3) := by decide +kernel
theorem dL_law_766 : decode cL_law 766 = .ok (.iconst 0, 1) := by decide +kernel
theorem dL_law_767 : decode cL_law 767 = .ok (.istore 21, 2) := by decide +kernel
theorem dL_law_769 : decode cL_law 769 = .ok (.iload 21, 2) := by decide +kernel
theorem dL_law_771 : decode cL_law 771 = .ok (.iload_n 3, 1) := by decide +kernel
theorem dL_law_772 : decode cL_law 772 = .ok (.if_icmp .ge 308, 3) := by decide +kernel
theorem dL_law_775 : decode cL_law 775 = .ok (.aload_n 1, 1) := by decide +kernel
theorem dL_law_776 : decode cL_law 776 = .ok (.iload 21, 2) := by decide +kernel
theorem dL_law_778 : decode cL_law 778 = .ok (.iconst 1, 1) := by decide +kernel
theorem dL_law_779 : decode cL_law 779 = .ok (.invokevirtual 81, 3) := by decide +kernel
theorem dL_law_782 : decode cL_law 782 = .ok (.iconst 1, 1) := by decide +kernel
theorem dL_law_783 : decode cL_law 783 = .ok (.if_icmp .ne 7, 3) := by decide +kernel
theorem dL_law_786 : decode cL_law 786 = .ok (.iconst 1, 1) := by decide +kernel
theorem dL_law_787 : decode cL_law 787 = .ok (.goto 4, 3) := by decide +kernel
theorem dL_law_790 : decode cL_law 790 = .ok (.iconst 0, 1) := by decide +kernel
theorem dL_law_791 : decode cL_law 791 = .ok (.istore 22, 2) := by decide +kernel
theorem dL_law_793 : decode cL_law 793 = .ok (.iload 22, 2) := by decide +kernel
theorem dL_law_795 : decode cL_law 795 = .ok (.ifCond .eq 16, 3) := by decide +kernel
theorem dL_law_798 : decode cL_law 798 = .ok (.aload_n 1, 1) := by decide +kernel
theorem dL_law_799 : decode cL_law 799 = .ok (.iload 21, 2) := by decide +kernel
theorem dL_law_801 : decode cL_law 801 = .ok (.iconst 0, 1) := by decide +kernel
theorem dL_law_802 : decode cL_law 802 = .ok (.invokevirtual 81, 3) := by decide +kernel
theorem dL_law_805 : decode cL_law 805 = .ok (.iload 11, 2) := by decide +kernel
theorem dL_law_807 : decode cL_law 807 = .ok (.imul, 1) := by decide +kernel
theorem dL_law_808 : decode cL_law 808 = .ok (.goto 4, 3) := by decide +kernel
theorem dL_law_811 : decode cL_law 811 = .ok (.iconst 0, 1) := by decide +kernel
theorem dL_law_812 : decode cL_law 812 = .ok (.istore 23, 2) := by decide +kernel
theorem dL_law_814 : decode cL_law 814 = .ok (.aload_n 1, 1) := by decide +kernel
theorem dL_law_815 : decode cL_law 815 = .ok (.iload 21, 2) := by decide +kernel
theorem dL_law_817 : decode cL_law 817 = .ok (.iconst 2, 1) := by decide +kernel
theorem dL_law_818 : decode cL_law 818 = .ok (.invokevirtual 81, 3) := by decide +kernel
theorem dL_law_821 : decode cL_law 821 = .ok (.iload 22, 2) := by decide +kernel
theorem dL_law_823 : decode cL_law 823 = .ok (.ifCond .eq 15, 3) := by decide +kernel
theorem dL_law_826 : decode cL_law 826 = .ok (.iconst 2, 1) := by decide +kernel
theorem dL_law_827 : decode cL_law 827 = .ok (.aload_n 1, 1) := by decide +kernel
theorem dL_law_828 : decode cL_law 828 = .ok (.iload 21, 2) := by decide +kernel
theorem dL_law_830 : decode cL_law 830 = .ok (.iconst 0, 1) := by decide +kernel
theorem dL_law_831 : decode cL_law 831 = .ok (.invokevirtual 81, 3) := by decide +kernel
theorem dL_law_834 : decode cL_law 834 = .ok (.imul, 1) := by decide +kernel
theorem dL_law_835 : decode cL_law 835 = .ok (.goto 4, 3) := by decide +kernel
theorem dL_law_838 : decode cL_law 838 = .ok (.iconst 0, 1) := by decide +kernel
theorem dL_law_839 : decode cL_law 839 = .ok (.if_icmp .ne 136, 3) := by decide +kernel
theorem dL_law_842 : decode cL_law 842 = .ok (.aload_n 1, 1) := by decide +kernel
theorem dL_law_843 : decode cL_law 843 = .ok (.iload 21, 2) := by decide +kernel
theorem dL_law_845 : decode cL_law 845 = .ok (.iconst 3, 1) := by decide +kernel
theorem dL_law_846 : decode cL_law 846 = .ok (.invokevirtual 81, 3) := by decide +kernel
theorem dL_law_849 : decode cL_law 849 = .ok (.aload 13, 2) := by decide +kernel
theorem dL_law_851 : decode cL_law 851 = .ok (.iload 21, 2) := by decide +kernel
theorem dL_law_853 : decode cL_law 853 = .ok (.iaload, 1) := by decide +kernel
theorem dL_law_854 : decode cL_law 854 = .ok (.if_icmp .ne 121, 3) := by decide +kernel
theorem dL_law_857 : decode cL_law 857 = .ok (.aload_n 1, 1) := by decide +kernel
theorem dL_law_858 : decode cL_law 858 = .ok (.iload 21, 2) := by decide +kernel
theorem dL_law_860 : decode cL_law 860 = .ok (.iconst 4, 1) := by decide +kernel
theorem dL_law_861 : decode cL_law 861 = .ok (.invokevirtual 81, 3) := by decide +kernel
theorem dL_law_864 : decode cL_law 864 = .ok (.aload 14, 2) := by decide +kernel
theorem dL_law_866 : decode cL_law 866 = .ok (.iload 21, 2) := by decide +kernel
theorem dL_law_868 : decode cL_law 868 = .ok (.iaload, 1) := by decide +kernel
theorem dL_law_869 : decode cL_law 869 = .ok (.if_icmp .ne 106, 3) := by decide +kernel
theorem dL_law_872 : decode cL_law 872 = .ok (.aload_n 1, 1) := by decide +kernel
theorem dL_law_873 : decode cL_law 873 = .ok (.iload 21, 2) := by decide +kernel
theorem dL_law_875 : decode cL_law 875 = .ok (.iconst 5, 1) := by decide +kernel
theorem dL_law_876 : decode cL_law 876 = .ok (.invokevirtual 81, 3) := by decide +kernel
theorem dL_law_879 : decode cL_law 879 = .ok (.aload 15, 2) := by decide +kernel
theorem dL_law_881 : decode cL_law 881 = .ok (.iload 21, 2) := by decide +kernel
theorem dL_law_883 : decode cL_law 883 = .ok (.iaload, 1) := by decide +kernel
theorem dL_law_884 : decode cL_law 884 = .ok (.if_icmp .ne 91, 3) := by decide +kernel
theorem dL_law_887 : decode cL_law 887 = .ok (.aload_n 1, 1) := by decide +kernel
theorem dL_law_888 : decode cL_law 888 = .ok (.iload 21, 2) := by decide +kernel
theorem dL_law_890 : decode cL_law 890 = .ok (.bipush 6, 2) := by decide +kernel
theorem dL_law_892 : decode cL_law 892 = .ok (.invokevirtual 81, 3) := by decide +kernel
theorem dL_law_895 : decode cL_law 895 = .ok (.aload 16, 2) := by decide +kernel
theorem dL_law_897 : decode cL_law 897 = .ok (.iload 21, 2) := by decide +kernel
theorem dL_law_899 : decode cL_law 899 = .ok (.iaload, 1) := by decide +kernel
theorem dL_law_900 : decode cL_law 900 = .ok (.if_icmp .ne 75, 3) := by decide +kernel
theorem dL_law_903 : decode cL_law 903 = .ok (.aload_n 1, 1) := by decide +kernel
theorem dL_law_904 : decode cL_law 904 = .ok (.iload 21, 2) := by decide +kernel
theorem dL_law_906 : decode cL_law 906 = .ok (.bipush 7, 2) := by decide +kernel
theorem dL_law_908 : decode cL_law 908 = .ok (.invokevirtual 81, 3) := by decide +kernel
theorem dL_law_911 : decode cL_law 911 = .ok (.aload 17, 2) := by decide +kernel
theorem dL_law_913 : decode cL_law 913 = .ok (.iload 21, 2) := by decide +kernel
theorem dL_law_915 : decode cL_law 915 = .ok (.iaload, 1) := by decide +kernel
theorem dL_law_916 : decode cL_law 916 = .ok (.if_icmp .ne 59, 3) := by decide +kernel
theorem dL_law_919 : decode cL_law 919 = .ok (.aload_n 1, 1) := by decide +kernel
theorem dL_law_920 : decode cL_law 920 = .ok (.iload 21, 2) := by decide +kernel
theorem dL_law_922 : decode cL_law 922 = .ok (.bipush 8, 2) := by decide +kernel
theorem dL_law_924 : decode cL_law 924 = .ok (.invokevirtual 81, 3) := by decide +kernel
theorem dL_law_927 : decode cL_law 927 = .ok (.iload 23, 2) := by decide +kernel
theorem dL_law_929 : decode cL_law 929 = .ok (.if_icmp .ne 46, 3) := by decide +kernel
theorem dL_law_932 : decode cL_law 932 = .ok (.aload_n 1, 1) := by decide +kernel
theorem dL_law_933 : decode cL_law 933 = .ok (.iload 21, 2) := by decide +kernel
theorem dL_law_935 : decode cL_law 935 = .ok (.bipush 9, 2) := by decide +kernel
theorem dL_law_937 : decode cL_law 937 = .ok (.invokevirtual 81, 3) := by decide +kernel
theorem dL_law_940 : decode cL_law 940 = .ok (.aload 15, 2) := by decide +kernel
theorem dL_law_942 : decode cL_law 942 = .ok (.iload 21, 2) := by decide +kernel
theorem dL_law_944 : decode cL_law 944 = .ok (.iaload, 1) := by decide +kernel
theorem dL_law_945 : decode cL_law 945 = .ok (.iload 23, 2) := by decide +kernel
theorem dL_law_947 : decode cL_law 947 = .ok (.if_icmp .le 7, 3) := by decide +kernel
theorem dL_law_950 : decode cL_law 950 = .ok (.iconst 1, 1) := by decide +kernel
theorem dL_law_951 : decode cL_law 951 = .ok (.goto 4, 3) := by decide +kernel
theorem dL_law_954 : decode cL_law 954 = .ok (.iconst 0, 1) := by decide +kernel
theorem dL_law_955 : decode cL_law 955 = .ok (.if_icmp .ne 20, 3) := by decide +kernel
theorem dL_law_958 : decode cL_law 958 = .ok (.aload_n 1, 1) := by decide +kernel
theorem dL_law_959 : decode cL_law 959 = .ok (.iload 21, 2) := by decide +kernel
theorem dL_law_961 : decode cL_law 961 = .ok (.invokevirtual 156, 3) := by decide +kernel
theorem dL_law_964 : decode cL_law 964 = .ok (.aload 20, 2) := by decide +kernel
theorem dL_law_966 : decode cL_law 966 = .ok (.iload 21, 2) := by decide +kernel
theorem dL_law_968 : decode cL_law 968 = .ok (.aaload, 1) := by decide +kernel
theorem dL_law_969 : decode cL_law 969 = .ok (.invokevirtual 19, 3) := by decide +kernel
theorem dL_law_972 : decode cL_law 972 = .ok (.if_icmp .eq 5, 3) := by decide +kernel
theorem dL_law_975 : decode cL_law 975 = .ok (.iconst 0, 1) := by decide +kernel
theorem dL_law_976 : decode cL_law 976 = .ok (.ireturn, 1) := by decide +kernel
theorem dL_law_977 : decode cL_law 977 = .ok (.iconst 0, 1) := by decide +kernel
theorem dL_law_978 : decode cL_law 978 = .ok (.istore 24, 2) := by decide +kernel
theorem dL_law_980 : decode cL_law 980 = .ok (.iload 24, 2) := by decide +kernel
theorem dL_law_982 : decode cL_law 982 = .ok (.aload 20, 2) := by decide +kernel
theorem dL_law_984 : decode cL_law 984 = .ok (.iload 21, 2) := by decide +kernel
theorem dL_law_986 : decode cL_law 986 = .ok (.aaload, 1) := by decide +kernel
theorem dL_law_987 : decode cL_law 987 = .ok (.invokevirtual 19, 3) := by decide +kernel
theorem dL_law_990 : decode cL_law 990 = .ok (.if_icmp .ge 30, 3) := by decide +kernel
theorem dL_law_993 : decode cL_law 993 = .ok (.aload_n 1, 1) := by decide +kernel
theorem dL_law_994 : decode cL_law 994 = .ok (.iload 24, 2) := by decide +kernel
theorem dL_law_996 : decode cL_law 996 = .ok (.invokevirtual 151, 3) := by decide +kernel
theorem dL_law_999 : decode cL_law 999 = .ok (.aload 20, 2) := by decide +kernel
theorem dL_law_1001 : decode cL_law 1001 = .ok (.iload 21, 2) := by decide +kernel
theorem dL_law_1003 : decode cL_law 1003 = .ok (.aaload, 1) := by decide +kernel
theorem dL_law_1004 : decode cL_law 1004 = .ok (.iload 24, 2) := by decide +kernel
theorem dL_law_1006 : decode cL_law 1006 = .ok (.invokevirtual 25, 3) := by decide +kernel
theorem dL_law_1009 : decode cL_law 1009 = .ok (.if_icmp .eq 5, 3) := by decide +kernel
theorem dL_law_1012 : decode cL_law 1012 = .ok (.iconst 0, 1) := by decide +kernel
theorem dL_law_1013 : decode cL_law 1013 = .ok (.ireturn, 1) := by decide +kernel
theorem dL_law_1014 : decode cL_law 1014 = .ok (.iinc 24 1, 3) := by decide +kernel
theorem dL_law_1017 : decode cL_law 1017 = .ok (.goto (-37), 3) := by decide +kernel
theorem dL_law_1020 : decode cL_law 1020 = .ok (.iload 5, 2) := by decide +kernel
theorem dL_law_1022 : decode cL_law 1022 = .ok (.iload 22, 2) := by decide +kernel
theorem dL_law_1024 : decode cL_law 1024 = .ok (.ifCond .eq 7, 3) := by decide +kernel
theorem dL_law_1027 : decode cL_law 1027 = .ok (.iconst 1, 1) := by decide +kernel
theorem dL_law_1028 : decode cL_law 1028 = .ok (.goto 4, 3) := by decide +kernel
theorem dL_law_1031 : decode cL_law 1031 = .ok (.iconst 0, 1) := by decide +kernel
theorem dL_law_1032 : decode cL_law 1032 = .ok (.iadd, 1) := by decide +kernel
theorem dL_law_1033 : decode cL_law 1033 = .ok (.istore 5, 2) := by decide +kernel
theorem dL_law_1035 : decode cL_law 1035 = .ok (.iload 6, 2) := by decide +kernel
theorem dL_law_1037 : decode cL_law 1037 = .ok (.aload_n 1, 1) := by decide +kernel
theorem dL_law_1038 : decode cL_law 1038 = .ok (.iload 21, 2) := by decide +kernel
theorem dL_law_1040 : decode cL_law 1040 = .ok (.iconst 2, 1) := by decide +kernel
theorem dL_law_1041 : decode cL_law 1041 = .ok (.invokevirtual 81, 3) := by decide +kernel
theorem dL_law_1044 : decode cL_law 1044 = .ok (.iadd, 1) := by decide +kernel
theorem dL_law_1045 : decode cL_law 1045 = .ok (.istore 6, 2) := by decide +kernel
theorem dL_law_1047 : decode cL_law 1047 = .ok (.iload 9, 2) := by decide +kernel
theorem dL_law_1049 : decode cL_law 1049 = .ok (.iload 23, 2) := by decide +kernel
theorem dL_law_1051 : decode cL_law 1051 = .ok (.iadd, 1) := by decide +kernel
theorem dL_law_1052 : decode cL_law 1052 = .ok (.istore 9, 2) := by decide +kernel
theorem dL_law_1054 : decode cL_law 1054 = .ok (.iload 10, 2) := by decide +kernel
theorem dL_law_1056 : decode cL_law 1056 = .ok (.aload 15, 2) := by decide +kernel
theorem dL_law_1058 : decode cL_law 1058 = .ok (.iload 21, 2) := by decide +kernel
theorem dL_law_1060 : decode cL_law 1060 = .ok (.iaload, 1) := by decide +kernel
theorem dL_law_1061 : decode cL_law 1061 = .ok (.iload 23, 2) := by decide +kernel
theorem dL_law_1063 : decode cL_law 1063 = .ok (.if_icmp .le 7, 3) := by decide +kernel
theorem dL_law_1066 : decode cL_law 1066 = .ok (.iconst 1, 1) := by decide +kernel
theorem dL_law_1067 : decode cL_law 1067 = .ok (.goto 4, 3) := by decide +kernel
theorem dL_law_1070 : decode cL_law 1070 = .ok (.iconst 0, 1) := by decide +kernel
theorem dL_law_1071 : decode cL_law 1071 = .ok (.iadd, 1) := by decide +kernel
theorem dL_law_1072 : decode cL_law 1072 = .ok (.istore 10, 2) := by decide +kernel
theorem dL_law_1074 : decode cL_law 1074 = .ok (.iinc 21 1, 3) := by decide +kernel
theorem dL_law_1077 : decode cL_law 1077 = .ok (.goto (-308), 3) := by decide +kernel
theorem dL_law_1080 : decode cL_law 1080 = .ok (.aload_n 1, 1) := by decide +kernel
theorem dL_law_1081 : decode cL_law 1081 = .ok (.iconst 1, 1) := by decide +kernel
theorem dL_law_1082 : decode cL_law 1082 = .ok (.invokevirtual 54, 3) := by decide +kernel
theorem dL_law_1085 : decode cL_law 1085 = .ok (.iload 5, 2) := by decide +kernel
theorem dL_law_1087 : decode cL_law 1087 = .ok (.if_icmp .ne 160, 3) := by decide +kernel
theorem dL_law_1090 : decode cL_law 1090 = .ok (.aload_n 1, 1) := by decide +kernel
theorem dL_law_1091 : decode cL_law 1091 = .ok (.iconst 2, 1) := by decide +kernel
theorem dL_law_1092 : decode cL_law 1092 = .ok (.invokevirtual 54, 3) := by decide +kernel
theorem dL_law_1095 : decode cL_law 1095 = .ok (.iload 6, 2) := by decide +kernel
theorem dL_law_1097 : decode cL_law 1097 = .ok (.if_icmp .ne 150, 3) := by decide +kernel
theorem dL_law_1100 : decode cL_law 1100 = .ok (.aload_n 1, 1) := by decide +kernel
theorem dL_law_1101 : decode cL_law 1101 = .ok (.iconst 4, 1) := by decide +kernel
theorem dL_law_1102 : decode cL_law 1102 = .ok (.invokevirtual 54, 3) := by decide +kernel
theorem dL_law_1105 : decode cL_law 1105 = .ok (.aload 18, 2) := by decide +kernel
theorem dL_law_1107 : decode cL_law 1107 = .ok (.iconst 0, 1) := by decide +kernel
theorem dL_law_1108 : decode cL_law 1108 = .ok (.iaload, 1) := by decide +kernel
theorem dL_law_1109 : decode cL_law 1109 = .ok (.if_icmp .ne 138, 3) := by decide +kernel
theorem dL_law_1112 : decode cL_law 1112 = .ok (.aload_n 1, 1) := by decide +kernel
theorem dL_law_1113 : decode cL_law 1113 = .ok (.iconst 5, 1) := by decide +kernel
theorem dL_law_1114 : decode cL_law 1114 = .ok (.invokevirtual 54, 3) := by decide +kernel
theorem dL_law_1117 : decode cL_law 1117 = .ok (.aload 18, 2) := by decide +kernel
theorem dL_law_1119 : decode cL_law 1119 = .ok (.iconst 1, 1) := by decide +kernel
theorem dL_law_1120 : decode cL_law 1120 = .ok (.iaload, 1) := by decide +kernel
theorem dL_law_1121 : decode cL_law 1121 = .ok (.if_icmp .ne 126, 3) := by decide +kernel
theorem dL_law_1124 : decode cL_law 1124 = .ok (.aload_n 1, 1) := by decide +kernel
theorem dL_law_1125 : decode cL_law 1125 = .ok (.bipush 6, 2) := by decide +kernel
theorem dL_law_1127 : decode cL_law 1127 = .ok (.invokevirtual 54, 3) := by decide +kernel
theorem dL_law_1130 : decode cL_law 1130 = .ok (.aload 18, 2) := by decide +kernel
theorem dL_law_1132 : decode cL_law 1132 = .ok (.iconst 2, 1) := by decide +kernel
theorem dL_law_1133 : decode cL_law 1133 = .ok (.iaload, 1) := by decide +kernel
theorem dL_law_1134 : decode cL_law 1134 = .ok (.if_icmp .ne 113, 3) := by decide +kernel
