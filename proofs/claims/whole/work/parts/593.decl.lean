theorem dL_law__710 : decode cL_law_ 710 = .ok (.iaload, 1) := by decide +kernel
theorem dL_law__711 : decode cL_law_ 711 = .ok (.invokevirtual 164, 3) := by decide +kernel
theorem dL_law__714 : decode cL_law_ 714 = .ok (.istore 6, 2) := by decide +kernel
theorem dL_law__716 : decode cL_law_ 716 = .ok (.aload_n 2, 1) := by decide +kernel
theorem dL_law__717 : decode cL_law_ 717 = .ok (.invokevirtual 133, 3) := by decide +kernel
theorem dL_law__720 : decode cL_law_ 720 = .ok (.iload 5, 2) := by decide +kernel
theorem dL_law__722 : decode cL_law_ 722 = .ok (.if_icmp .eq 5, 3) := by decide +kernel
theorem dL_law__725 : decode cL_law_ 725 = .ok (.iconst 0, 1) := by decide +kernel
theorem dL_law__726 : decode cL_law_ 726 = .ok (.ireturn, 1) := by decide +kernel
theorem dL_law__727 : decode cL_law_ 727 = .ok (.iload 5, 2) := by decide +kernel
theorem dL_law__729 : decode cL_law_ 729 = .ok (.ifCond .ne 15, 3) := by decide +kernel
theorem dL_law__732 : decode cL_law_ 732 = .ok (.aload_n 3, 1) := by decide +kernel
theorem dL_law__733 : decode cL_law_ 733 = .ok (.iconst 0, 1) := by decide +kernel
theorem dL_law__734 : decode cL_law_ 734 = .ok (.laload, 1) := by decide +kernel
theorem dL_law__735 : decode cL_law_ 735 = .ok (.iload 6, 2) := by decide +kernel
theorem dL_law__737 : decode cL_law_ 737 = .ok (.i2l, 1) := by decide +kernel
theorem dL_law__738 : decode cL_law_ 738 = .ok (.lcmp, 1) := by decide +kernel
theorem dL_law__739 : decode cL_law_ 739 = .ok (.ifCond .eq 5, 3) := by decide +kernel
theorem dL_law__742 : decode cL_law_ 742 = .ok (.iconst 0, 1) := by decide +kernel
theorem dL_law__743 : decode cL_law_ 743 = .ok (.ireturn, 1) := by decide +kernel
theorem dL_law__744 : decode cL_law_ 744 = .ok (.goto 1989, 3) := by decide +kernel
theorem dL_law__747 : decode cL_law_ 747 = .ok (.aload_n 1, 1) := by decide +kernel
theorem dL_law__748 : decode cL_law_ 748 = .ok (.aload_n 0, 1) := by decide +kernel
theorem dL_law__749 : decode cL_law_ 749 = .ok (.iload 4, 2) := by decide +kernel
theorem dL_law__751 : decode cL_law_ 751 = .ok (.iconst 1, 1) := by decide +kernel
theorem dL_law__752 : decode cL_law_ 752 = .ok (.iadd, 1) := by decide +kernel
theorem dL_law__753 : decode cL_law_ 753 = .ok (.iaload, 1) := by decide +kernel
theorem dL_law__754 : decode cL_law_ 754 = .ok (.aload_n 0, 1) := by decide +kernel
theorem dL_law__755 : decode cL_law_ 755 = .ok (.iload 4, 2) := by decide +kernel
theorem dL_law__757 : decode cL_law_ 757 = .ok (.iconst 2, 1) := by decide +kernel
theorem dL_law__758 : decode cL_law_ 758 = .ok (.iadd, 1) := by decide +kernel
theorem dL_law__759 : decode cL_law_ 759 = .ok (.iaload, 1) := by decide +kernel
theorem dL_law__760 : decode cL_law_ 760 = .ok (.aload_n 0, 1) := by decide +kernel
theorem dL_law__761 : decode cL_law_ 761 = .ok (.iload 4, 2) := by decide +kernel
theorem dL_law__763 : decode cL_law_ 763 = .ok (.iconst 3, 1) := by decide +kernel
theorem dL_law__764 : decode cL_law_ 764 = .ok (.iadd, 1) := by decide +kernel
theorem dL_law__765 : decode cL_law_ 765 = .ok (.iaload, 1) := by decide +kernel
theorem dL_law__766 : decode cL_law_ 766 = .ok (.aload_n 3, 1) := by decide +kernel
theorem dL_law__767 : decode cL_law_ 767 = .ok (.invokestatic 165, 3) := by decide +kernel
theorem dL_law__770 : decode cL_law_ 770 = .ok (.istore 5, 2) := by decide +kernel
theorem dL_law__772 : decode cL_law_ 772 = .ok (.aload_n 2, 1) := by decide +kernel
theorem dL_law__773 : decode cL_law_ 773 = .ok (.aload_n 0, 1) := by decide +kernel
theorem dL_law__774 : decode cL_law_ 774 = .ok (.iload 4, 2) := by decide +kernel
theorem dL_law__776 : decode cL_law_ 776 = .ok (.iconst 1, 1) := by decide +kernel
theorem dL_law__777 : decode cL_law_ 777 = .ok (.iadd, 1) := by decide +kernel
theorem dL_law__778 : decode cL_law_ 778 = .ok (.iaload, 1) := by decide +kernel
theorem dL_law__779 : decode cL_law_ 779 = .ok (.aload_n 0, 1) := by decide +kernel
theorem dL_law__780 : decode cL_law_ 780 = .ok (.iload 4, 2) := by decide +kernel
theorem dL_law__782 : decode cL_law_ 782 = .ok (.iconst 2, 1) := by decide +kernel
theorem dL_law__783 : decode cL_law_ 783 = .ok (.iadd, 1) := by decide +kernel
theorem dL_law__784 : decode cL_law_ 784 = .ok (.iaload, 1) := by decide +kernel
theorem dL_law__785 : decode cL_law_ 785 = .ok (.aload_n 0, 1) := by decide +kernel
theorem dL_law__786 : decode cL_law_ 786 = .ok (.iload 4, 2) := by decide +kernel
theorem dL_law__788 : decode cL_law_ 788 = .ok (.iconst 3, 1) := by decide +kernel
theorem dL_law__789 : decode cL_law_ 789 = .ok (.iadd, 1) := by decide +kernel
theorem dL_law__790 : decode cL_law_ 790 = .ok (.iaload, 1) := by decide +kernel
theorem dL_law__791 : decode cL_law_ 791 = .ok (.invokevirtual 167, 3) := by decide +kernel
theorem dL_law__794 : decode cL_law_ 794 = .ok (.istore 6, 2) := by decide +kernel
theorem dL_law__796 : decode cL_law_ 796 = .ok (.aload_n 2, 1) := by decide +kernel
theorem dL_law__797 : decode cL_law_ 797 = .ok (.invokevirtual 133, 3) := by decide +kernel
theorem dL_law__800 : decode cL_law_ 800 = .ok (.iload 5, 2) := by decide +kernel
theorem dL_law__802 : decode cL_law_ 802 = .ok (.if_icmp .eq 5, 3) := by decide +kernel
theorem dL_law__805 : decode cL_law_ 805 = .ok (.iconst 0, 1) := by decide +kernel
theorem dL_law__806 : decode cL_law_ 806 = .ok (.ireturn, 1) := by decide +kernel
theorem dL_law__807 : decode cL_law_ 807 = .ok (.iload 5, 2) := by decide +kernel
theorem dL_law__809 : decode cL_law_ 809 = .ok (.ifCond .ne 15, 3) := by decide +kernel
theorem dL_law__812 : decode cL_law_ 812 = .ok (.aload_n 3, 1) := by decide +kernel
theorem dL_law__813 : decode cL_law_ 813 = .ok (.iconst 0, 1) := by decide +kernel
theorem dL_law__814 : decode cL_law_ 814 = .ok (.laload, 1) := by decide +kernel
theorem dL_law__815 : decode cL_law_ 815 = .ok (.iload 6, 2) := by decide +kernel
theorem dL_law__817 : decode cL_law_ 817 = .ok (.i2l, 1) := by decide +kernel
theorem dL_law__818 : decode cL_law_ 818 = .ok (.lcmp, 1) := by decide +kernel
theorem dL_law__819 : decode cL_law_ 819 = .ok (.ifCond .eq 5, 3) := by decide +kernel
theorem dL_law__822 : decode cL_law_ 822 = .ok (.iconst 0, 1) := by decide +kernel
theorem dL_law__823 : decode cL_law_ 823 = .ok (.ireturn, 1) := by decide +kernel
theorem dL_law__824 : decode cL_law_ 824 = .ok (.goto 1909, 3) := by decide +kernel
theorem dL_law__827 : decode cL_law_ 827 = .ok (.aload_n 1, 1) := by decide +kernel
theorem dL_law__828 : decode cL_law_ 828 = .ok (.aload_n 0, 1) := by decide +kernel
theorem dL_law__829 : decode cL_law_ 829 = .ok (.iload 4, 2) := by decide +kernel
theorem dL_law__831 : decode cL_law_ 831 = .ok (.iconst 1, 1) := by decide +kernel
theorem dL_law__832 : decode cL_law_ 832 = .ok (.iadd, 1) := by decide +kernel
theorem dL_law__833 : decode cL_law_ 833 = .ok (.iaload, 1) := by decide +kernel
theorem dL_law__834 : decode cL_law_ 834 = .ok (.aload_n 0, 1) := by decide +kernel
theorem dL_law__835 : decode cL_law_ 835 = .ok (.iload 4, 2) := by decide +kernel
theorem dL_law__837 : decode cL_law_ 837 = .ok (.iconst 2, 1) := by decide +kernel
theorem dL_law__838 : decode cL_law_ 838 = .ok (.iadd, 1) := by decide +kernel
theorem dL_law__839 : decode cL_law_ 839 = .ok (.iaload, 1) := by decide +kernel
theorem dL_law__840 : decode cL_law_ 840 = .ok (.aload_n 0, 1) := by decide +kernel
theorem dL_law__841 : decode cL_law_ 841 = .ok (.iload 4, 2) := by decide +kernel
theorem dL_law__843 : decode cL_law_ 843 = .ok (.iconst 3, 1) := by decide +kernel
theorem dL_law__844 : decode cL_law_ 844 = .ok (.iadd, 1) := by decide +kernel
theorem dL_law__845 : decode cL_law_ 845 = .ok (.iaload, 1) := by decide +kernel
theorem dL_law__846 : decode cL_law_ 846 = .ok (.aload_n 0, 1) := by decide +kernel
theorem dL_law__847 : decode cL_law_ 847 = .ok (.iload 4, 2) := by decide +kernel
theorem dL_law__849 : decode cL_law_ 849 = .ok (.iconst 4, 1) := by decide +kernel
theorem dL_law__850 : decode cL_law_ 850 = .ok (.iadd, 1) := by decide +kernel
theorem dL_law__851 : decode cL_law_ 851 = .ok (.iaload, 1) := by decide +kernel
theorem dL_law__852 : decode cL_law_ 852 = .ok (.aload_n 3, 1) := by decide +kernel
theorem dL_law__853 : decode cL_law_ 853 = .ok (.invokestatic 168, 3) := by decide +kernel
theorem dL_law__856 : decode cL_law_ 856 = .ok (.istore 5, 2) := by decide +kernel
theorem dL_law__858 : decode cL_law_ 858 = .ok (.aload_n 2, 1) := by decide +kernel
theorem dL_law__859 : decode cL_law_ 859 = .ok (.aload_n 0, 1) := by decide +kernel
theorem dL_law__860 : decode cL_law_ 860 = .ok (.iload 4, 2) := by decide +kernel
theorem dL_law__862 : decode cL_law_ 862 = .ok (.iconst 1, 1) := by decide +kernel
theorem dL_law__863 : decode cL_law_ 863 = .ok (.iadd, 1) := by decide +kernel
theorem dL_law__864 : decode cL_law_ 864 = .ok (.iaload, 1) := by decide +kernel
theorem dL_law__865 : decode cL_law_ 865 = .ok (.aload_n 0, 1) := by decide +kernel
theorem dL_law__866 : decode cL_law_ 866 = .ok (.iload 4, 2) := by decide +kernel
theorem dL_law__868 : decode cL_law_ 868 = .ok (.iconst 2, 1) := by decide +kernel
theorem dL_law__869 : decode cL_law_ 869 = .ok (.iadd, 1) := by decide +kernel
theorem dL_law__870 : decode cL_law_ 870 = .ok (.iaload, 1) := by decide +kernel
theorem dL_law__871 : decode cL_law_ 871 = .ok (.aload_n 0, 1) := by decide +kernel
theorem dL_law__872 : decode cL_law_ 872 = .ok (.iload 4, 2) := by decide +kernel
theorem dL_law__874 : decode cL_law_ 874 = .ok (.iconst 3, 1) := by decide +kernel
theorem dL_law__875 : decode cL_law_ 875 = .ok (.iadd, 1) := by decide +kernel
theorem dL_law__876 : decode cL_law_ 876 = .ok (.iaload, 1) := by decide +kernel
theorem dL_law__877 : decode cL_law_ 877 = .ok (.aload_n 0, 1) := by decide +kernel
theorem dL_law__878 : decode cL_law_ 878 = .ok (.iload 4, 2) := by decide +kernel
theorem dL_law__880 : decode cL_law_ 880 = .ok (.iconst 4, 1) := by decide +kernel
theorem dL_law__881 : decode cL_law_ 881 = .ok (.iadd, 1) := by decide +kernel
theorem dL_law__882 : decode cL_law_ 882 = .ok (.iaload, 1) := by decide +kernel
theorem dL_law__883 : decode cL_law_ 883 = .ok (.invokevirtual 171, 3) := by decide +kernel
theorem dL_law__886 : decode cL_law_ 886 = .ok (.istore 6, 2) := by decide +kernel
theorem dL_law__888 : decode cL_law_ 888 = .ok (.aload_n 2, 1) := by decide +kernel
theorem dL_law__889 : decode cL_law_ 889 = .ok (.invokevirtual 133, 3) := by decide +kernel
theorem dL_law__892 : decode cL_law_ 892 = .ok (.iload 5, 2) := by decide +kernel
theorem dL_law__894 : decode cL_law_ 894 = .ok (.if_icmp .eq 5, 3) := by decide +kernel
theorem dL_law__897 : decode cL_law_ 897 = .ok (.iconst 0, 1) := by decide +kernel
theorem dL_law__898 : decode cL_law_ 898 = .ok (.ireturn, 1) := by decide +kernel
theorem dL_law__899 : decode cL_law_ 899 = .ok (.iload 5, 2) := by decide +kernel
theorem dL_law__901 : decode cL_law_ 901 = .ok (.ifCond .ne 15, 3) := by decide +kernel
theorem dL_law__904 : decode cL_law_ 904 = .ok (.aload_n 3, 1) := by decide +kernel
theorem dL_law__905 : decode cL_law_ 905 = .ok (.iconst 0, 1) := by decide +kernel
theorem dL_law__906 : decode cL_law_ 906 = .ok (.laload, 1) := by decide +kernel
theorem dL_law__907 : decode cL_law_ 907 = .ok (.iload 6, 2) := by decide +kernel
theorem dL_law__909 : decode cL_law_ 909 = .ok (.i2l, 1) := by decide +kernel
theorem dL_law__910 : decode cL_law_ 910 = .ok (.lcmp, 1) := by decide +kernel
theorem dL_law__911 : decode cL_law_ 911 = .ok (.ifCond .eq 5, 3) := by decide +kernel
theorem dL_law__914 : decode cL_law_ 914 = .ok (.iconst 0, 1) := by decide +kernel
theorem dL_law__915 : decode cL_law_ 915 = .ok (.ireturn, 1) := by decide +kernel
theorem dL_law__916 : decode cL_law_ 916 = .ok (.goto 1817, 3) := by decide +kernel
theorem dL_law__919 : decode cL_law_ 919 = .ok (.aload_n 1, 1) := by decide +kernel
theorem dL_law__920 : decode cL_law_ 920 = .ok (.aload_n 0, 1) := by decide +kernel
theorem dL_law__921 : decode cL_law_ 921 = .ok (.iload 4, 2) := by decide +kernel
theorem dL_law__923 : decode cL_law_ 923 = .ok (.iconst 1, 1) := by decide +kernel
theorem dL_law__924 : decode cL_law_ 924 = .ok (.iadd, 1) := by decide +kernel
theorem dL_law__925 : decode cL_law_ 925 = .ok (.iaload, 1) := by decide +kernel
theorem dL_law__926 : decode cL_law_ 926 = .ok (.aload_n 0, 1) := by decide +kernel
theorem dL_law__927 : decode cL_law_ 927 = .ok (.iload 4, 2) := by decide +kernel
theorem dL_law__929 : decode cL_law_ 929 = .ok (.iconst 2, 1) := by decide +kernel
theorem dL_law__930 : decode cL_law_ 930 = .ok (.iadd, 1) := by decide +kernel
theorem dL_law__931 : decode cL_law_ 931 = .ok (.iaload, 1) := by decide +kernel
theorem dL_law__932 : decode cL_law_ 932 = .ok (.aload_n 3, 1) := by decide +kernel
theorem dL_law__933 : decode cL_law_ 933 = .ok (.invokestatic 172, 3) := by decide +kernel
theorem dL_law__936 : decode cL_law_ 936 = .ok (.istore 5, 2) := by decide +kernel
theorem dL_law__938 : decode cL_law_ 938 = .ok (.aload_n 2, 1) := by decide +kernel
theorem dL_law__939 : decode cL_law_ 939 = .ok (.aload_n 0, 1) := by decide +kernel
theorem dL_law__940 : decode cL_law_ 940 = .ok (.iload 4, 2) := by decide +kernel
theorem dL_law__942 : decode cL_law_ 942 = .ok (.iconst 1, 1) := by decide +kernel
theorem dL_law__943 : decode cL_law_ 943 = .ok (.iadd, 1) := by decide +kernel
theorem dL_law__944 : decode cL_law_ 944 = .ok (.iaload, 1) := by decide +kernel
theorem dL_law__945 : decode cL_law_ 945 = .ok (.aload_n 0, 1) := by decide +kernel
theorem dL_law__946 : decode cL_law_ 946 = .ok (.iload 4, 2) := by decide +kernel
theorem dL_law__948 : decode cL_law_ 948 = .ok (.iconst 2, 1) := by decide +kernel
theorem dL_law__949 : decode cL_law_ 949 = .ok (.iadd, 1) := by decide +kernel
theorem dL_law__950 : decode cL_law_ 950 = .ok (.iaload, 1) := by decide +kernel
theorem dL_law__951 : decode cL_law_ 951 = .ok (.invokevirtual 174, 3) := by decide +kernel
theorem dL_law__954 : decode cL_law_ 954 = .ok (.istore 6, 2) := by decide +kernel
theorem dL_law__956 : decode cL_law_ 956 = .ok (.aload_n 2, 1) := by decide +kernel
theorem dL_law__957 : decode cL_law_ 957 = .ok (.invokevirtual 133, 3) := by decide +kernel
theorem dL_law__960 : decode cL_law_ 960 = .ok (.iload 5, 2) := by decide +kernel
theorem dL_law__962 : decode cL_law_ 962 = .ok (.if_icmp .eq 5, 3) := by decide +kernel
theorem dL_law__965 : decode cL_law_ 965 = .ok (.iconst 0, 1) := by decide +kernel
theorem dL_law__966 : decode cL_law_ 966 = .ok (.ireturn, 1) := by decide +kernel
theorem dL_law__967 : decode cL_law_ 967 = .ok (.iload 5, 2) := by decide +kernel
theorem dL_law__969 : decode cL_law_ 969 = .ok (.ifCond .ne 15, 3) := by decide +kernel
theorem dL_law__972 : decode cL_law_ 972 = .ok (.aload_n 3, 1) := by decide +kernel
theorem dL_law__973 : decode cL_law_ 973 = .ok (.iconst 0, 1) := by decide +kernel
theorem dL_law__974 : decode cL_law_ 974 = .ok (.laload, 1) := by decide +kernel
theorem dL_law__975 : decode cL_law_ 975 = .ok (.iload 6, 2) := by decide +kernel
theorem dL_law__977 : decode cL_law_ 977 = .ok (.i2l, 1) := by decide +kernel
theorem dL_law__978 : decode cL_law_ 978 = .ok (.lcmp, 1) := by decide +kernel
theorem dL_law__979 : decode cL_law_ 979 = .ok (.ifCond .eq 5, 3) := by decide +kernel
theorem dL_law__982 : decode cL_law_ 982 = .ok (.iconst 0, 1) := by decide +kernel
theorem dL_law__983 : decode cL_law_ 983 = .ok (.ireturn, 1) := by decide +kernel
theorem dL_law__984 : decode cL_law_ 984 = .ok (.goto 1749, 3) := by decide +kernel
theorem dL_law__987 : decode cL_law_ 987 = .ok (.aload_n 1, 1) := by decide +kernel
theorem dL_law__988 : decode cL_law_ 988 = .ok (.aload_n 0, 1) := by decide +kernel
theorem dL_law__989 : decode cL_law_ 989 = .ok (.iload 4, 2) := by decide +kernel
theorem dL_law__991 : decode cL_law_ 991 = .ok (.iconst 1, 1) := by decide +kernel
theorem dL_law__992 : decode cL_law_ 992 = .ok (.iadd, 1) := by decide +kernel
theorem dL_law__993 : decode cL_law_ 993 = .ok (.iaload, 1) := by decide +kernel
theorem dL_law__994 : decode cL_law_ 994 = .ok (.aload_n 0, 1) := by decide +kernel
theorem dL_law__995 : decode cL_law_ 995 = .ok (.iload 4, 2) := by decide +kernel
theorem dL_law__997 : decode cL_law_ 997 = .ok (.iconst 2, 1) := by decide +kernel
theorem dL_law__998 : decode cL_law_ 998 = .ok (.iadd, 1) := by decide +kernel
theorem dL_law__999 : decode cL_law_ 999 = .ok (.iaload, 1) := by decide +kernel
theorem dL_law__1000 : decode cL_law_ 1000 = .ok (.aload_n 3, 1) := by decide +kernel
theorem dL_law__1001 : decode cL_law_ 1001 = .ok (.invokestatic 175, 3) := by decide +kernel
theorem dL_law__1004 : decode cL_law_ 1004 = .ok (.istore 5, 2) := by decide +kernel
theorem dL_law__1006 : decode cL_law_ 1006 = .ok (.aload_n 2, 1) := by decide +kernel
theorem dL_law__1007 : decode cL_law_ 1007 = .ok (.aload_n 0, 1) := by decide +kernel
theorem dL_law__1008 : decode cL_law_ 1008 = .ok (.iload 4, 2) := by decide +kernel
theorem dL_law__1010 : decode cL_law_ 1010 = .ok (.iconst 1, 1) := by decide +kernel
theorem dL_law__1011 : decode cL_law_ 1011 = .ok (.iadd, 1) := by decide +kernel
theorem dL_law__1012 : decode cL_law_ 1012 = .ok (.iaload, 1) := by decide +kernel
theorem dL_law__1013 : decode cL_law_ 1013 = .ok (.aload_n 0, 1) := by decide +kernel
theorem dL_law__1014 : decode cL_law_ 1014 = .ok (.iload 4, 2) := by decide +kernel
theorem dL_law__1016 : decode cL_law_ 1016 = .ok (.iconst 2, 1) := by decide +kernel
theorem dL_law__1017 : decode cL_law_ 1017 = .ok (.iadd, 1) := by decide +kernel
theorem dL_law__1018 : decode cL_law_ 1018 = .ok (.iaload, 1) := by decide +kernel
theorem dL_law__1019 : decode cL_law_ 1019 = .ok (.invokevirtual 177, 3) := by decide +kernel
theorem dL_law__1022 : decode cL_law_ 1022 = .ok (.istore 6, 2) := by decide +kernel
theorem dL_law__1024 : decode cL_law_ 1024 = .ok (.aload_n 2, 1) := by decide +kernel
theorem dL_law__1025 : decode cL_law_ 1025 = .ok (.invokevirtual 133, 3) := by decide +kernel
theorem dL_law__1028 : decode cL_law_ 1028 = .ok (.iload 5, 2) := by decide +kernel
theorem dL_law__1030 : decode cL_law_ 1030 = .ok (.if_icmp .eq 5, 3) := by decide +kernel
theorem dL_law__1033 : decode cL_law_ 1033 = .ok (.iconst 0, 1) := by decide +kernel
theorem dL_law__1034 : decode cL_law_ 1034 = .ok (.ireturn, 1) := by decide +kernel
theorem dL_law__1035 : decode cL_law_ 1035 = .ok (.iload 5, 2) := by decide +kernel
theorem dL_law__1037 : decode cL_law_ 1037 = .ok (.ifCond .ne 15, 3) := by decide +kernel
theorem dL_law__1040 : decode cL_law_ 1040 = .ok (.aload_n 3, 1) := by decide +kernel
theorem dL_law__1041 : decode cL_law_ 1041 = .ok (.iconst 0, 1) := by decide +kernel
theorem dL_law__1042 : decode cL_law_ 1042 = .ok (.laload, 1) := by decide +kernel
theorem dL_law__1043 : decode cL_law_ 1043 = .ok (.iload 6, 2) := by decide +kernel
theorem dL_law__1045 : decode cL_law_ 1045 = .ok (.i2l, 1) := by decide +kernel
theorem dL_law__1046 : decode cL_law_ 1046 = .ok (.lcmp, 1) := by decide +kernel
theorem dL_law__1047 : decode cL_law_ 1047 = .ok (.ifCond .eq 5, 3) := by decide +kernel
theorem dL_law__1050 : decode cL_law_ 1050 = .ok (.iconst 0, 1) := by decide +kernel
theorem dL_law__1051 : decode cL_law_ 1051 = .ok (.ireturn, 1) := by decide +kernel
theorem dL_law__1052 : decode cL_law_ 1052 = .ok (.goto 1681, 3) := by decide +kernel
theorem dL_law__1055 : decode cL_law_ 1055 = .ok (.aload_n 1, 1) := by decide +kernel
theorem dL_law__1056 : decode cL_law_ 1056 = .ok (.aload_n 0, 1) := by decide +kernel
theorem dL_law__1057 : decode cL_law_ 1057 = .ok (.iload 4, 2) := by decide +kernel
theorem dL_law__1059 : decode cL_law_ 1059 = .ok (.iconst 1, 1) := by decide +kernel
theorem dL_law__1060 : decode cL_law_ 1060 = .ok (.iadd, 1) := by decide +kernel
theorem dL_law__1061 : decode cL_law_ 1061 = .ok (.iaload, 1) := by decide +kernel
theorem dL_law__1062 : decode cL_law_ 1062 = .ok (.aload_n 0, 1) := by decide +kernel
theorem dL_law__1063 : decode cL_law_ 1063 = .ok (.iload 4, 2) := by decide +kernel
theorem dL_law__1065 : decode cL_law_ 1065 = .ok (.iconst 2, 1) := by decide +kernel
theorem dL_law__1066 : decode cL_law_ 1066 = .ok (.iadd, 1) := by decide +kernel
theorem dL_law__1067 : decode cL_law_ 1067 = .ok (.iaload, 1) := by decide +kernel
theorem dL_law__1068 : decode cL_law_ 1068 = .ok (.aload_n 3, 1) := by decide +kernel
theorem dL_law__1069 : decode cL_law_ 1069 = .ok (.invokestatic 178, 3) := by decide +kernel
theorem dL_law__1072 : decode cL_law_ 1072 = .ok (.istore 5, 2) := by decide +kernel
theorem dL_law__1074 : decode cL_law_ 1074 = .ok (.aload_n 2, 1) := by decide +kernel
theorem dL_law__1075 : decode cL_law_ 1075 = .ok (.aload_n 0, 1) := by decide +kernel
theorem dL_law__1076 : decode cL_law_ 1076 = .ok (.iload 4, 2) := by decide +kernel
theorem dL_law__1078 : decode cL_law_ 1078 = .ok (.iconst 1, 1) := by decide +kernel
theorem dL_law__1079 : decode cL_law_ 1079 = .ok (.iadd, 1) := by decide +kernel
theorem dL_law__1080 : decode cL_law_ 1080 = .ok (.iaload, 1) := by decide +kernel
theorem dL_law__1081 : decode cL_law_ 1081 = .ok (.aload_n 0, 1) := by decide +kernel
theorem dL_law__1082 : decode cL_law_ 1082 = .ok (.iload 4, 2) := by decide +kernel
theorem dL_law__1084 : decode cL_law_ 1084 = .ok (.iconst 2, 1) := by decide +kernel
theorem dL_law__1085 : decode cL_law_ 1085 = .ok (.iadd, 1) := by decide +kernel
theorem dL_law__1086 : decode cL_law_ 1086 = .ok (.iaload, 1) := by decide +kernel
theorem dL_law__1087 : decode cL_law_ 1087 = .ok (.invokevirtual 180, 3) := by decide +kernel
theorem dL_law__1090 : decode cL_law_ 1090 = .ok (.istore 6, 2) := by decide +kernel
theorem dL_law__1092 : decode cL_law_ 1092 = .ok (.aload_n 2, 1) := by decide +kernel
theorem dL_law__1093 : decode cL_law_ 1093 = .ok (.invokevirtual 133, 3) := by decide +kernel
theorem dL_law__1096 : decode cL_law_ 1096 = .ok (.iload 5, 2) := by decide +kernel
theorem dL_law__1098 : decode cL_law_ 1098 = .ok (.if_icmp .eq 5, 3) := by decide +kernel
theorem dL_law__1101 : decode cL_law_ 1101 = .ok (.iconst 0, 1) := by decide +kernel
theorem dL_law__1102 : decode cL_law_ 1102 = .ok (.ireturn, 1) := by decide +kernel
theorem dL_law__1103 : decode cL_law_ 1103 = .ok (.iload 5, 2) := by decide +kernel
theorem dL_law__1105 : decode cL_law_ 1105 = .ok (.ifCond .ne 15, 3) := by decide +kernel
theorem dL_law__1108 : decode cL_law_ 1108 = .ok (.aload_n 3, 1) := by decide +kernel
theorem dL_law__1109 : decode cL_law_ 1109 = .ok (.iconst 0, 1) := by decide +kernel
theorem dL_law__1110 : decode cL_law_ 1110 = .ok (.laload, 1) := by decide +kernel
theorem dL_law__1111 : decode cL_law_ 1111 = .ok (.iload 6, 2) := by decide +kernel
theorem dL_law__1113 : decode cL_law_ 1113 = .ok (.i2l, 1) := by decide +kernel
theorem dL_law__1114 : decode cL_law_ 1114 = .ok (.lcmp, 1) := by decide +kernel
theorem dL_law__1115 : decode cL_law_ 1115 = .ok (.ifCond .eq 5, 3) := by decide +kernel
theorem dL_law__1118 : decode cL_law_ 1118 = .ok (.iconst 0, 1) := by decide +kernel
theorem dL_law__1119 : decode cL_law_ 1119 = .ok (.ireturn, 1) := by decide +kernel
theorem dL_law__1120 : decode cL_law_ 1120 = .ok (.goto 1613, 3) := by decide +kernel
theorem dL_law__1123 : decode cL_law_ 1123 = .ok (.aload_n 1, 1) := by decide +kernel
theorem dL_law__1124 : decode cL_law_ 1124 = .ok (.aload_n 0, 1) := by decide +kernel
theorem dL_law__1125 : decode cL_law_ 1125 = .ok (.iload 4, 2) := by decide +kernel
theorem dL_law__1127 : decode cL_law_ 1127 = .ok (.iconst 1, 1) := by decide +kernel
theorem dL_law__1128 : decode cL_law_ 1128 = .ok (.iadd, 1) := by decide +kernel
theorem dL_law__1129 : decode cL_law_ 1129 = .ok (.iaload, 1) := by decide +kernel
theorem dL_law__1130 : decode cL_law_ 1130 = .ok (.aload_n 0, 1) := by decide +kernel
theorem dL_law__1131 : decode cL_law_ 1131 = .ok (.iload 4, 2) := by decide +kernel
theorem dL_law__1133 : decode cL_law_ 1133 = .ok (.iconst 2, 1) := by decide +kernel
theorem dL_law__1134 : decode cL_law_ 1134 = .ok (.iadd, 1) := by decide +kernel
theorem dL_law__1135 : decode cL_law_ 1135 = .ok (.iaload, 1) := by decide +kernel
theorem dL_law__1136 : decode cL_law_ 1136 = .ok (.aload_n 0, 1) := by decide +kernel
theorem dL_law__1137 : decode cL_law_ 1137 = .ok (.iload 4, 2) := by decide +kernel
theorem dL_law__1139 : decode cL_law_ 1139 = .ok (.iconst 3, 1) := by decide +kernel
theorem dL_law__1140 : decode cL_law_ 1140 = .ok (.iadd, 1) := by decide +kernel
theorem dL_law__1141 : decode cL_law_ 1141 = .ok (.iaload, 1) := by decide +kernel
theorem dL_law__1142 : decode cL_law_ 1142 = .ok (.aload_n 3, 1) := by decide +kernel
theorem dL_law__1143 : decode cL_law_ 1143 = .ok (.invokestatic 181, 3) := by decide +kernel
theorem dL_law__1146 : decode cL_law_ 1146 = .ok (.istore 5, 2) := by decide +kernel
theorem dL_law__1148 : decode cL_law_ 1148 = .ok (.aload_n 2, 1) := by decide +kernel
theorem dL_law__1149 : decode cL_law_ 1149 = .ok (.aload_n 0, 1) := by decide +kernel
theorem dL_law__1150 : decode cL_law_ 1150 = .ok (.iload 4, 2) := by decide +kernel
theorem dL_law__1152 : decode cL_law_ 1152 = .ok (.iconst 1, 1) := by decide +kernel
theorem dL_law__1153 : decode cL_law_ 1153 = .ok (.iadd, 1) := by decide +kernel
theorem dL_law__1154 : decode cL_law_ 1154 = .ok (.iaload, 1) := by decide +kernel
theorem dL_law__1155 : decode cL_law_ 1155 = .ok (.aload_n 0, 1) := by decide +kernel
theorem dL_law__1156 : decode cL_law_ 1156 = .ok (.iload 4, 2) := by decide +kernel
theorem dL_law__1158 : decode cL_law_ 1158 = .ok (.iconst 2, 1) := by decide +kernel
theorem dL_law__1159 : decode cL_law_ 1159 = .ok (.iadd, 1) := by decide +kernel
theorem dL_law__1160 : decode cL_law_ 1160 = .ok (.iaload, 1) := by decide +kernel
theorem dL_law__1161 : decode cL_law_ 1161 = .ok (.aload_n 0, 1) := by decide +kernel
theorem dL_law__1162 : decode cL_law_ 1162 = .ok (.iload 4, 2) := by decide +kernel
theorem dL_law__1164 : decode cL_law_ 1164 = .ok (.iconst 3, 1) := by decide +kernel
theorem dL_law__1165 : decode cL_law_ 1165 = .ok (.iadd, 1) := by decide +kernel
theorem dL_law__1166 : decode cL_law_ 1166 = .ok (.iaload, 1) := by decide +kernel
theorem dL_law__1167 : decode cL_law_ 1167 = .ok (.invokevirtual 183, 3) := by decide +kernel
theorem dL_law__1170 : decode cL_law_ 1170 = .ok (.istore 6, 2) := by decide +kernel
theorem dL_law__1172 : decode cL_law_ 1172 = .ok (.aload_n 2, 1) := by decide +kernel
theorem dL_law__1173 : decode cL_law_ 1173 = .ok (.invokevirtual 133, 3) := by decide +kernel
theorem dL_law__1176 : decode cL_law_ 1176 = .ok (.iload 5, 2) := by decide +kernel
theorem dL_law__1178 : decode cL_law_ 1178 = .ok (.if_icmp .eq 5, 3) := by decide +kernel
theorem dL_law__1181 : decode cL_law_ 1181 = .ok (.iconst 0, 1) := by decide +kernel
theorem dL_law__1182 : decode cL_law_ 1182 = .ok (.ireturn, 1) := by decide +kernel
theorem dL_law__1183 : decode cL_law_ 1183 = .ok (.iload 5, 2) := by decide +kernel
theorem dL_law__1185 : decode cL_law_ 1185 = .ok (.ifCond .ne 22, 3) := by decide +kernel
theorem dL_law__1188 : decode cL_law_ 1188 = .ok (.aload_n 3, 1) := by decide +kernel
theorem dL_law__1189 : decode cL_law_ 1189 = .ok (.iconst 0, 1) := by decide +kernel
theorem dL_law__1190 : decode cL_law_ 1190 = .ok (.laload, 1) := by decide +kernel
theorem dL_law__1191 : decode cL_law_ 1191 = .ok (.iload 6, 2) := by decide +kernel
theorem dL_law__1193 : decode cL_law_ 1193 = .ok (.ifCond .eq 7, 3) := by decide +kernel
theorem dL_law__1196 : decode cL_law_ 1196 = .ok (.lconst 1, 1) := by decide +kernel
theorem dL_law__1197 : decode cL_law_ 1197 = .ok (.goto 4, 3) := by decide +kernel
theorem dL_law__1200 : decode cL_law_ 1200 = .ok (.lconst 0, 1) := by decide +kernel
theorem dL_law__1201 : decode cL_law_ 1201 = .ok (.lcmp, 1) := by decide +kernel
theorem dL_law__1202 : decode cL_law_ 1202 = .ok (.ifCond .eq 5, 3) := by decide +kernel
theorem dL_law__1205 : decode cL_law_ 1205 = .ok (.iconst 0, 1) := by decide +kernel
theorem dL_law__1206 : decode cL_law_ 1206 = .ok (.ireturn, 1) := by decide +kernel
theorem dL_law__1207 : decode cL_law_ 1207 = .ok (.goto 1526, 3) := by decide +kernel
theorem dL_law__1210 : decode cL_law_ 1210 = .ok (.aload_n 1, 1) := by decide +kernel
theorem dL_law__1211 : decode cL_law_ 1211 = .ok (.aload_n 0, 1) := by decide +kernel
theorem dL_law__1212 : decode cL_law_ 1212 = .ok (.iload 4, 2) := by decide +kernel
theorem dL_law__1214 : decode cL_law_ 1214 = .ok (.iconst 1, 1) := by decide +kernel
theorem dL_law__1215 : decode cL_law_ 1215 = .ok (.iadd, 1) := by decide +kernel
theorem dL_law__1216 : decode cL_law_ 1216 = .ok (.iaload, 1) := by decide +kernel
theorem dL_law__1217 : decode cL_law_ 1217 = .ok (.aload_n 0, 1) := by decide +kernel
theorem dL_law__1218 : decode cL_law_ 1218 = .ok (.iload 4, 2) := by decide +kernel
theorem dL_law__1220 : decode cL_law_ 1220 = .ok (.iconst 2, 1) := by decide +kernel
theorem dL_law__1221 : decode cL_law_ 1221 = .ok (.iadd, 1) := by decide +kernel
theorem dL_law__1222 : decode cL_law_ 1222 = .ok (.iaload, 1) := by decide +kernel
theorem dL_law__1223 : decode cL_law_ 1223 = .ok (.aload_n 3, 1) := by decide +kernel
theorem dL_law__1224 : decode cL_law_ 1224 = .ok (.invokestatic 184, 3) := by decide +kernel
theorem dL_law__1227 : decode cL_law_ 1227 = .ok (.istore 5, 2) := by decide +kernel
theorem dL_law__1229 : decode cL_law_ 1229 = .ok (.aload_n 2, 1) := by decide +kernel
theorem dL_law__1230 : decode cL_law_ 1230 = .ok (.aload_n 0, 1) := by decide +kernel
