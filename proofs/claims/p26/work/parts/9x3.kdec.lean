section
set_option maxRecDepth 100000 in
theorem dlw_799 : decode cL_law 799 = .ok (.aload_n 0, 1) := by decide +kernel
set_option maxRecDepth 100000 in
theorem dlw_800 : decode cL_law 800 = .ok (.iload 4, 2) := by decide +kernel
set_option maxRecDepth 100000 in
theorem dlw_802 : decode cL_law 802 = .ok (.iconst 1, 1) := by decide +kernel
set_option maxRecDepth 100000 in
theorem dlw_803 : decode cL_law 803 = .ok (.iadd, 1) := by decide +kernel
set_option maxRecDepth 100000 in
theorem dlw_804 : decode cL_law 804 = .ok (.iaload, 1) := by decide +kernel
set_option maxRecDepth 100000 in
theorem dlw_805 : decode cL_law 805 = .ok (.aload_n 0, 1) := by decide +kernel
set_option maxRecDepth 100000 in
theorem dlw_806 : decode cL_law 806 = .ok (.iload 4, 2) := by decide +kernel
set_option maxRecDepth 100000 in
theorem dlw_808 : decode cL_law 808 = .ok (.iconst 2, 1) := by decide +kernel
set_option maxRecDepth 100000 in
theorem dlw_809 : decode cL_law 809 = .ok (.iadd, 1) := by decide +kernel
set_option maxRecDepth 100000 in
theorem dlw_810 : decode cL_law 810 = .ok (.iaload, 1) := by decide +kernel
set_option maxRecDepth 100000 in
theorem dlw_811 : decode cL_law 811 = .ok (.aload_n 3, 1) := by decide +kernel
set_option maxRecDepth 100000 in
theorem dlw_812 : decode cL_law 812 = .ok (.invokestatic 170, 3) := by decide +kernel
set_option maxRecDepth 100000 in
theorem dlw_815 : decode cL_law 815 = .ok (.istore 5, 2) := by decide +kernel
set_option maxRecDepth 100000 in
theorem dlw_817 : decode cL_law 817 = .ok (.aload_n 2, 1) := by decide +kernel
set_option maxRecDepth 100000 in
theorem dlw_818 : decode cL_law 818 = .ok (.aload_n 0, 1) := by decide +kernel
set_option maxRecDepth 100000 in
theorem dlw_819 : decode cL_law 819 = .ok (.iload 4, 2) := by decide +kernel
set_option maxRecDepth 100000 in
theorem dlw_821 : decode cL_law 821 = .ok (.iconst 1, 1) := by decide +kernel
set_option maxRecDepth 100000 in
theorem dlw_822 : decode cL_law 822 = .ok (.iadd, 1) := by decide +kernel
set_option maxRecDepth 100000 in
theorem dlw_823 : decode cL_law 823 = .ok (.iaload, 1) := by decide +kernel
set_option maxRecDepth 100000 in
theorem dlw_824 : decode cL_law 824 = .ok (.aload_n 0, 1) := by decide +kernel
set_option maxRecDepth 100000 in
theorem dlw_825 : decode cL_law 825 = .ok (.iload 4, 2) := by decide +kernel
set_option maxRecDepth 100000 in
theorem dlw_827 : decode cL_law 827 = .ok (.iconst 2, 1) := by decide +kernel
set_option maxRecDepth 100000 in
theorem dlw_828 : decode cL_law 828 = .ok (.iadd, 1) := by decide +kernel
set_option maxRecDepth 100000 in
theorem dlw_829 : decode cL_law 829 = .ok (.iaload, 1) := by decide +kernel
set_option maxRecDepth 100000 in
theorem dlw_830 : decode cL_law 830 = .ok (.invokevirtual 172, 3) := by decide +kernel
set_option maxRecDepth 100000 in
theorem dlw_833 : decode cL_law 833 = .ok (.istore 6, 2) := by decide +kernel
set_option maxRecDepth 100000 in
theorem dlw_835 : decode cL_law 835 = .ok (.goto 352, 3) := by decide +kernel
set_option maxRecDepth 100000 in
theorem dlw_838 : decode cL_law 838 = .ok (.aload_n 1, 1) := by decide +kernel
set_option maxRecDepth 100000 in
theorem dlw_839 : decode cL_law 839 = .ok (.aload_n 0, 1) := by decide +kernel
set_option maxRecDepth 100000 in
theorem dlw_840 : decode cL_law 840 = .ok (.iload 4, 2) := by decide +kernel
set_option maxRecDepth 100000 in
theorem dlw_842 : decode cL_law 842 = .ok (.iconst 1, 1) := by decide +kernel
set_option maxRecDepth 100000 in
theorem dlw_843 : decode cL_law 843 = .ok (.iadd, 1) := by decide +kernel
set_option maxRecDepth 100000 in
theorem dlw_844 : decode cL_law 844 = .ok (.iaload, 1) := by decide +kernel
set_option maxRecDepth 100000 in
theorem dlw_845 : decode cL_law 845 = .ok (.aload_n 3, 1) := by decide +kernel
set_option maxRecDepth 100000 in
theorem dlw_846 : decode cL_law 846 = .ok (.invokestatic 173, 3) := by decide +kernel
set_option maxRecDepth 100000 in
theorem dlw_849 : decode cL_law 849 = .ok (.istore 5, 2) := by decide +kernel
set_option maxRecDepth 100000 in
theorem dlw_851 : decode cL_law 851 = .ok (.aload_n 2, 1) := by decide +kernel
set_option maxRecDepth 100000 in
theorem dlw_852 : decode cL_law 852 = .ok (.aload_n 0, 1) := by decide +kernel
set_option maxRecDepth 100000 in
theorem dlw_853 : decode cL_law 853 = .ok (.iload 4, 2) := by decide +kernel
set_option maxRecDepth 100000 in
theorem dlw_855 : decode cL_law 855 = .ok (.iconst 1, 1) := by decide +kernel
set_option maxRecDepth 100000 in
theorem dlw_856 : decode cL_law 856 = .ok (.iadd, 1) := by decide +kernel
set_option maxRecDepth 100000 in
theorem dlw_857 : decode cL_law 857 = .ok (.iaload, 1) := by decide +kernel
set_option maxRecDepth 100000 in
theorem dlw_858 : decode cL_law 858 = .ok (.invokevirtual 175, 3) := by decide +kernel
set_option maxRecDepth 100000 in
theorem dlw_861 : decode cL_law 861 = .ok (.istore 6, 2) := by decide +kernel
set_option maxRecDepth 100000 in
theorem dlw_863 : decode cL_law 863 = .ok (.goto 324, 3) := by decide +kernel
set_option maxRecDepth 100000 in
theorem dlw_866 : decode cL_law 866 = .ok (.aload_n 1, 1) := by decide +kernel
set_option maxRecDepth 100000 in
theorem dlw_867 : decode cL_law 867 = .ok (.aload_n 0, 1) := by decide +kernel
set_option maxRecDepth 100000 in
theorem dlw_868 : decode cL_law 868 = .ok (.iload 4, 2) := by decide +kernel
set_option maxRecDepth 100000 in
theorem dlw_870 : decode cL_law 870 = .ok (.iconst 1, 1) := by decide +kernel
set_option maxRecDepth 100000 in
theorem dlw_871 : decode cL_law 871 = .ok (.iadd, 1) := by decide +kernel
set_option maxRecDepth 100000 in
theorem dlw_872 : decode cL_law 872 = .ok (.iaload, 1) := by decide +kernel
set_option maxRecDepth 100000 in
theorem dlw_873 : decode cL_law 873 = .ok (.aload_n 0, 1) := by decide +kernel
set_option maxRecDepth 100000 in
theorem dlw_874 : decode cL_law 874 = .ok (.iload 4, 2) := by decide +kernel
set_option maxRecDepth 100000 in
theorem dlw_876 : decode cL_law 876 = .ok (.iconst 2, 1) := by decide +kernel
set_option maxRecDepth 100000 in
theorem dlw_877 : decode cL_law 877 = .ok (.iadd, 1) := by decide +kernel
set_option maxRecDepth 100000 in
theorem dlw_878 : decode cL_law 878 = .ok (.iaload, 1) := by decide +kernel
set_option maxRecDepth 100000 in
theorem dlw_879 : decode cL_law 879 = .ok (.aload_n 3, 1) := by decide +kernel
set_option maxRecDepth 100000 in
theorem dlw_880 : decode cL_law 880 = .ok (.invokestatic 176, 3) := by decide +kernel
set_option maxRecDepth 100000 in
theorem dlw_883 : decode cL_law 883 = .ok (.istore 5, 2) := by decide +kernel
set_option maxRecDepth 100000 in
theorem dlw_885 : decode cL_law 885 = .ok (.aload_n 2, 1) := by decide +kernel
set_option maxRecDepth 100000 in
theorem dlw_886 : decode cL_law 886 = .ok (.aload_n 0, 1) := by decide +kernel
set_option maxRecDepth 100000 in
theorem dlw_887 : decode cL_law 887 = .ok (.iload 4, 2) := by decide +kernel
set_option maxRecDepth 100000 in
theorem dlw_889 : decode cL_law 889 = .ok (.iconst 1, 1) := by decide +kernel
set_option maxRecDepth 100000 in
theorem dlw_890 : decode cL_law 890 = .ok (.iadd, 1) := by decide +kernel
set_option maxRecDepth 100000 in
theorem dlw_891 : decode cL_law 891 = .ok (.iaload, 1) := by decide +kernel
set_option maxRecDepth 100000 in
theorem dlw_892 : decode cL_law 892 = .ok (.aload_n 0, 1) := by decide +kernel
set_option maxRecDepth 100000 in
theorem dlw_893 : decode cL_law 893 = .ok (.iload 4, 2) := by decide +kernel
set_option maxRecDepth 100000 in
theorem dlw_895 : decode cL_law 895 = .ok (.iconst 2, 1) := by decide +kernel
set_option maxRecDepth 100000 in
theorem dlw_896 : decode cL_law 896 = .ok (.iadd, 1) := by decide +kernel
set_option maxRecDepth 100000 in
theorem dlw_897 : decode cL_law 897 = .ok (.iaload, 1) := by decide +kernel
set_option maxRecDepth 100000 in
theorem dlw_898 : decode cL_law 898 = .ok (.invokevirtual 178, 3) := by decide +kernel
set_option maxRecDepth 100000 in
theorem dlw_901 : decode cL_law 901 = .ok (.istore 6, 2) := by decide +kernel
set_option maxRecDepth 100000 in
theorem dlw_903 : decode cL_law 903 = .ok (.goto 284, 3) := by decide +kernel
set_option maxRecDepth 100000 in
theorem dlw_906 : decode cL_law 906 = .ok (.aload_n 1, 1) := by decide +kernel
set_option maxRecDepth 100000 in
theorem dlw_907 : decode cL_law 907 = .ok (.aload_n 0, 1) := by decide +kernel
set_option maxRecDepth 100000 in
theorem dlw_908 : decode cL_law 908 = .ok (.iload 4, 2) := by decide +kernel
set_option maxRecDepth 100000 in
theorem dlw_910 : decode cL_law 910 = .ok (.iconst 1, 1) := by decide +kernel
set_option maxRecDepth 100000 in
theorem dlw_911 : decode cL_law 911 = .ok (.iadd, 1) := by decide +kernel
set_option maxRecDepth 100000 in
theorem dlw_912 : decode cL_law 912 = .ok (.iaload, 1) := by decide +kernel
set_option maxRecDepth 100000 in
theorem dlw_913 : decode cL_law 913 = .ok (.aload_n 0, 1) := by decide +kernel
set_option maxRecDepth 100000 in
theorem dlw_914 : decode cL_law 914 = .ok (.iload 4, 2) := by decide +kernel
set_option maxRecDepth 100000 in
theorem dlw_916 : decode cL_law 916 = .ok (.iconst 2, 1) := by decide +kernel
set_option maxRecDepth 100000 in
theorem dlw_917 : decode cL_law 917 = .ok (.iadd, 1) := by decide +kernel
set_option maxRecDepth 100000 in
theorem dlw_918 : decode cL_law 918 = .ok (.iaload, 1) := by decide +kernel
set_option maxRecDepth 100000 in
theorem dlw_919 : decode cL_law 919 = .ok (.aload_n 3, 1) := by decide +kernel
set_option maxRecDepth 100000 in
theorem dlw_920 : decode cL_law 920 = .ok (.invokestatic 179, 3) := by decide +kernel
set_option maxRecDepth 100000 in
theorem dlw_923 : decode cL_law 923 = .ok (.istore 5, 2) := by decide +kernel
set_option maxRecDepth 100000 in
theorem dlw_925 : decode cL_law 925 = .ok (.aload_n 2, 1) := by decide +kernel
set_option maxRecDepth 100000 in
theorem dlw_926 : decode cL_law 926 = .ok (.aload_n 0, 1) := by decide +kernel
set_option maxRecDepth 100000 in
theorem dlw_927 : decode cL_law 927 = .ok (.iload 4, 2) := by decide +kernel
set_option maxRecDepth 100000 in
theorem dlw_929 : decode cL_law 929 = .ok (.iconst 1, 1) := by decide +kernel
set_option maxRecDepth 100000 in
theorem dlw_930 : decode cL_law 930 = .ok (.iadd, 1) := by decide +kernel
set_option maxRecDepth 100000 in
theorem dlw_931 : decode cL_law 931 = .ok (.iaload, 1) := by decide +kernel
set_option maxRecDepth 100000 in
theorem dlw_932 : decode cL_law 932 = .ok (.aload_n 0, 1) := by decide +kernel
set_option maxRecDepth 100000 in
theorem dlw_933 : decode cL_law 933 = .ok (.iload 4, 2) := by decide +kernel
set_option maxRecDepth 100000 in
theorem dlw_935 : decode cL_law 935 = .ok (.iconst 2, 1) := by decide +kernel
set_option maxRecDepth 100000 in
theorem dlw_936 : decode cL_law 936 = .ok (.iadd, 1) := by decide +kernel
set_option maxRecDepth 100000 in
theorem dlw_937 : decode cL_law 937 = .ok (.iaload, 1) := by decide +kernel
set_option maxRecDepth 100000 in
theorem dlw_938 : decode cL_law 938 = .ok (.invokevirtual 181, 3) := by decide +kernel
set_option maxRecDepth 100000 in
theorem dlw_941 : decode cL_law 941 = .ok (.istore 6, 2) := by decide +kernel
set_option maxRecDepth 100000 in
theorem dlw_943 : decode cL_law 943 = .ok (.goto 244, 3) := by decide +kernel
set_option maxRecDepth 100000 in
theorem dlw_946 : decode cL_law 946 = .ok (.aload_n 1, 1) := by decide +kernel
set_option maxRecDepth 100000 in
theorem dlw_947 : decode cL_law 947 = .ok (.aload_n 0, 1) := by decide +kernel
set_option maxRecDepth 100000 in
theorem dlw_948 : decode cL_law 948 = .ok (.iload 4, 2) := by decide +kernel
set_option maxRecDepth 100000 in
theorem dlw_950 : decode cL_law 950 = .ok (.iconst 1, 1) := by decide +kernel
set_option maxRecDepth 100000 in
theorem dlw_951 : decode cL_law 951 = .ok (.iadd, 1) := by decide +kernel
set_option maxRecDepth 100000 in
theorem dlw_952 : decode cL_law 952 = .ok (.iaload, 1) := by decide +kernel
set_option maxRecDepth 100000 in
theorem dlw_953 : decode cL_law 953 = .ok (.aload_n 0, 1) := by decide +kernel
set_option maxRecDepth 100000 in
theorem dlw_954 : decode cL_law 954 = .ok (.iload 4, 2) := by decide +kernel
set_option maxRecDepth 100000 in
theorem dlw_956 : decode cL_law 956 = .ok (.iconst 2, 1) := by decide +kernel
set_option maxRecDepth 100000 in
theorem dlw_957 : decode cL_law 957 = .ok (.iadd, 1) := by decide +kernel
set_option maxRecDepth 100000 in
theorem dlw_958 : decode cL_law 958 = .ok (.iaload, 1) := by decide +kernel
set_option maxRecDepth 100000 in
theorem dlw_959 : decode cL_law 959 = .ok (.aload_n 0, 1) := by decide +kernel
set_option maxRecDepth 100000 in
theorem dlw_960 : decode cL_law 960 = .ok (.iload 4, 2) := by decide +kernel
set_option maxRecDepth 100000 in
theorem dlw_962 : decode cL_law 962 = .ok (.iconst 3, 1) := by decide +kernel
set_option maxRecDepth 100000 in
theorem dlw_963 : decode cL_law 963 = .ok (.iadd, 1) := by decide +kernel
set_option maxRecDepth 100000 in
theorem dlw_964 : decode cL_law 964 = .ok (.iaload, 1) := by decide +kernel
set_option maxRecDepth 100000 in
theorem dlw_965 : decode cL_law 965 = .ok (.aload_n 3, 1) := by decide +kernel
set_option maxRecDepth 100000 in
theorem dlw_966 : decode cL_law 966 = .ok (.invokestatic 182, 3) := by decide +kernel
set_option maxRecDepth 100000 in
theorem dlw_969 : decode cL_law 969 = .ok (.istore 5, 2) := by decide +kernel
set_option maxRecDepth 100000 in
theorem dlw_971 : decode cL_law 971 = .ok (.aload_n 2, 1) := by decide +kernel
set_option maxRecDepth 100000 in
theorem dlw_972 : decode cL_law 972 = .ok (.aload_n 0, 1) := by decide +kernel
set_option maxRecDepth 100000 in
theorem dlw_973 : decode cL_law 973 = .ok (.iload 4, 2) := by decide +kernel
set_option maxRecDepth 100000 in
theorem dlw_975 : decode cL_law 975 = .ok (.iconst 1, 1) := by decide +kernel
set_option maxRecDepth 100000 in
theorem dlw_976 : decode cL_law 976 = .ok (.iadd, 1) := by decide +kernel
set_option maxRecDepth 100000 in
theorem dlw_977 : decode cL_law 977 = .ok (.iaload, 1) := by decide +kernel
set_option maxRecDepth 100000 in
theorem dlw_978 : decode cL_law 978 = .ok (.aload_n 0, 1) := by decide +kernel
set_option maxRecDepth 100000 in
theorem dlw_979 : decode cL_law 979 = .ok (.iload 4, 2) := by decide +kernel
set_option maxRecDepth 100000 in
theorem dlw_981 : decode cL_law 981 = .ok (.iconst 2, 1) := by decide +kernel
set_option maxRecDepth 100000 in
theorem dlw_982 : decode cL_law 982 = .ok (.iadd, 1) := by decide +kernel
set_option maxRecDepth 100000 in
theorem dlw_983 : decode cL_law 983 = .ok (.iaload, 1) := by decide +kernel
set_option maxRecDepth 100000 in
theorem dlw_984 : decode cL_law 984 = .ok (.aload_n 0, 1) := by decide +kernel
set_option maxRecDepth 100000 in
theorem dlw_985 : decode cL_law 985 = .ok (.iload 4, 2) := by decide +kernel
set_option maxRecDepth 100000 in
theorem dlw_987 : decode cL_law 987 = .ok (.iconst 3, 1) := by decide +kernel
set_option maxRecDepth 100000 in
theorem dlw_988 : decode cL_law 988 = .ok (.iadd, 1) := by decide +kernel
set_option maxRecDepth 100000 in
theorem dlw_989 : decode cL_law 989 = .ok (.iaload, 1) := by decide +kernel
set_option maxRecDepth 100000 in
theorem dlw_990 : decode cL_law 990 = .ok (.invokevirtual 185, 3) := by decide +kernel
set_option maxRecDepth 100000 in
theorem dlw_993 : decode cL_law 993 = .ok (.istore 6, 2) := by decide +kernel
set_option maxRecDepth 100000 in
theorem dlw_995 : decode cL_law 995 = .ok (.goto 192, 3) := by decide +kernel
set_option maxRecDepth 100000 in
theorem dlw_998 : decode cL_law 998 = .ok (.aload_n 1, 1) := by decide +kernel
set_option maxRecDepth 100000 in
theorem dlw_999 : decode cL_law 999 = .ok (.aload_n 0, 1) := by decide +kernel
set_option maxRecDepth 100000 in
theorem dlw_1000 : decode cL_law 1000 = .ok (.iload 4, 2) := by decide +kernel
set_option maxRecDepth 100000 in
theorem dlw_1002 : decode cL_law 1002 = .ok (.iconst 1, 1) := by decide +kernel
set_option maxRecDepth 100000 in
theorem dlw_1003 : decode cL_law 1003 = .ok (.iadd, 1) := by decide +kernel
set_option maxRecDepth 100000 in
theorem dlw_1004 : decode cL_law 1004 = .ok (.iaload, 1) := by decide +kernel
set_option maxRecDepth 100000 in
theorem dlw_1005 : decode cL_law 1005 = .ok (.aload_n 0, 1) := by decide +kernel
set_option maxRecDepth 100000 in
theorem dlw_1006 : decode cL_law 1006 = .ok (.iload 4, 2) := by decide +kernel
set_option maxRecDepth 100000 in
theorem dlw_1008 : decode cL_law 1008 = .ok (.iconst 2, 1) := by decide +kernel
set_option maxRecDepth 100000 in
theorem dlw_1009 : decode cL_law 1009 = .ok (.iadd, 1) := by decide +kernel
set_option maxRecDepth 100000 in
theorem dlw_1010 : decode cL_law 1010 = .ok (.iaload, 1) := by decide +kernel
end
section
set_option maxRecDepth 100000 in
theorem dlw_1011 : decode cL_law 1011 = .ok (.aload_n 3, 1) := by decide +kernel
set_option maxRecDepth 100000 in
theorem dlw_1012 : decode cL_law 1012 = .ok (.invokestatic 186, 3) := by decide +kernel
set_option maxRecDepth 100000 in
theorem dlw_1015 : decode cL_law 1015 = .ok (.istore 5, 2) := by decide +kernel
set_option maxRecDepth 100000 in
theorem dlw_1017 : decode cL_law 1017 = .ok (.aload_n 2, 1) := by decide +kernel
set_option maxRecDepth 100000 in
theorem dlw_1018 : decode cL_law 1018 = .ok (.aload_n 0, 1) := by decide +kernel
set_option maxRecDepth 100000 in
theorem dlw_1019 : decode cL_law 1019 = .ok (.iload 4, 2) := by decide +kernel
set_option maxRecDepth 100000 in
theorem dlw_1021 : decode cL_law 1021 = .ok (.iconst 1, 1) := by decide +kernel
set_option maxRecDepth 100000 in
theorem dlw_1022 : decode cL_law 1022 = .ok (.iadd, 1) := by decide +kernel
set_option maxRecDepth 100000 in
theorem dlw_1023 : decode cL_law 1023 = .ok (.iaload, 1) := by decide +kernel
set_option maxRecDepth 100000 in
theorem dlw_1024 : decode cL_law 1024 = .ok (.aload_n 0, 1) := by decide +kernel
set_option maxRecDepth 100000 in
theorem dlw_1025 : decode cL_law 1025 = .ok (.iload 4, 2) := by decide +kernel
set_option maxRecDepth 100000 in
theorem dlw_1027 : decode cL_law 1027 = .ok (.iconst 2, 1) := by decide +kernel
set_option maxRecDepth 100000 in
theorem dlw_1028 : decode cL_law 1028 = .ok (.iadd, 1) := by decide +kernel
set_option maxRecDepth 100000 in
theorem dlw_1029 : decode cL_law 1029 = .ok (.iaload, 1) := by decide +kernel
set_option maxRecDepth 100000 in
theorem dlw_1030 : decode cL_law 1030 = .ok (.invokevirtual 188, 3) := by decide +kernel
set_option maxRecDepth 100000 in
theorem dlw_1033 : decode cL_law 1033 = .ok (.istore 6, 2) := by decide +kernel
set_option maxRecDepth 100000 in
theorem dlw_1035 : decode cL_law 1035 = .ok (.aload_n 2, 1) := by decide +kernel
set_option maxRecDepth 100000 in
theorem dlw_1036 : decode cL_law 1036 = .ok (.invokevirtual 189, 3) := by decide +kernel
set_option maxRecDepth 100000 in
theorem dlw_1039 : decode cL_law 1039 = .ok (.iload 5, 2) := by decide +kernel
set_option maxRecDepth 100000 in
theorem dlw_1041 : decode cL_law 1041 = .ok (.if_icmp .eq 5, 3) := by decide +kernel
set_option maxRecDepth 100000 in
theorem dlw_1046 : decode cL_law 1046 = .ok (.iload 5, 2) := by decide +kernel
set_option maxRecDepth 100000 in
theorem dlw_1048 : decode cL_law 1048 = .ok (.ifCond .ne 15, 3) := by decide +kernel
set_option maxRecDepth 100000 in
theorem dlw_1051 : decode cL_law 1051 = .ok (.aload_n 3, 1) := by decide +kernel
set_option maxRecDepth 100000 in
theorem dlw_1052 : decode cL_law 1052 = .ok (.iconst 0, 1) := by decide +kernel
set_option maxRecDepth 100000 in
theorem dlw_1053 : decode cL_law 1053 = .ok (.laload, 1) := by decide +kernel
set_option maxRecDepth 100000 in
theorem dlw_1054 : decode cL_law 1054 = .ok (.iload 6, 2) := by decide +kernel
set_option maxRecDepth 100000 in
theorem dlw_1056 : decode cL_law 1056 = .ok (.i2l, 1) := by decide +kernel
set_option maxRecDepth 100000 in
theorem dlw_1057 : decode cL_law 1057 = .ok (.lcmp, 1) := by decide +kernel
set_option maxRecDepth 100000 in
theorem dlw_1058 : decode cL_law 1058 = .ok (.ifCond .eq 5, 3) := by decide +kernel
set_option maxRecDepth 100000 in
theorem dlw_1063 : decode cL_law 1063 = .ok (.goto 124, 3) := by decide +kernel
set_option maxRecDepth 100000 in
theorem dlw_1066 : decode cL_law 1066 = .ok (.aload_n 1, 1) := by decide +kernel
set_option maxRecDepth 100000 in
theorem dlw_1067 : decode cL_law 1067 = .ok (.aload_n 0, 1) := by decide +kernel
set_option maxRecDepth 100000 in
theorem dlw_1068 : decode cL_law 1068 = .ok (.iload 4, 2) := by decide +kernel
set_option maxRecDepth 100000 in
theorem dlw_1070 : decode cL_law 1070 = .ok (.iconst 1, 1) := by decide +kernel
set_option maxRecDepth 100000 in
theorem dlw_1071 : decode cL_law 1071 = .ok (.iadd, 1) := by decide +kernel
set_option maxRecDepth 100000 in
theorem dlw_1072 : decode cL_law 1072 = .ok (.iaload, 1) := by decide +kernel
set_option maxRecDepth 100000 in
theorem dlw_1073 : decode cL_law 1073 = .ok (.aload_n 0, 1) := by decide +kernel
set_option maxRecDepth 100000 in
theorem dlw_1074 : decode cL_law 1074 = .ok (.iload 4, 2) := by decide +kernel
set_option maxRecDepth 100000 in
theorem dlw_1076 : decode cL_law 1076 = .ok (.iconst 2, 1) := by decide +kernel
set_option maxRecDepth 100000 in
theorem dlw_1077 : decode cL_law 1077 = .ok (.iadd, 1) := by decide +kernel
set_option maxRecDepth 100000 in
theorem dlw_1078 : decode cL_law 1078 = .ok (.iaload, 1) := by decide +kernel
set_option maxRecDepth 100000 in
theorem dlw_1079 : decode cL_law 1079 = .ok (.aload_n 3, 1) := by decide +kernel
set_option maxRecDepth 100000 in
theorem dlw_1080 : decode cL_law 1080 = .ok (.invokestatic 192, 3) := by decide +kernel
set_option maxRecDepth 100000 in
theorem dlw_1083 : decode cL_law 1083 = .ok (.istore 5, 2) := by decide +kernel
set_option maxRecDepth 100000 in
theorem dlw_1085 : decode cL_law 1085 = .ok (.aload_n 2, 1) := by decide +kernel
set_option maxRecDepth 100000 in
theorem dlw_1086 : decode cL_law 1086 = .ok (.aload_n 0, 1) := by decide +kernel
set_option maxRecDepth 100000 in
theorem dlw_1087 : decode cL_law 1087 = .ok (.iload 4, 2) := by decide +kernel
set_option maxRecDepth 100000 in
theorem dlw_1089 : decode cL_law 1089 = .ok (.iconst 1, 1) := by decide +kernel
set_option maxRecDepth 100000 in
theorem dlw_1090 : decode cL_law 1090 = .ok (.iadd, 1) := by decide +kernel
set_option maxRecDepth 100000 in
theorem dlw_1091 : decode cL_law 1091 = .ok (.iaload, 1) := by decide +kernel
set_option maxRecDepth 100000 in
theorem dlw_1092 : decode cL_law 1092 = .ok (.aload_n 0, 1) := by decide +kernel
set_option maxRecDepth 100000 in
theorem dlw_1093 : decode cL_law 1093 = .ok (.iload 4, 2) := by decide +kernel
set_option maxRecDepth 100000 in
theorem dlw_1095 : decode cL_law 1095 = .ok (.iconst 2, 1) := by decide +kernel
set_option maxRecDepth 100000 in
theorem dlw_1096 : decode cL_law 1096 = .ok (.iadd, 1) := by decide +kernel
set_option maxRecDepth 100000 in
theorem dlw_1097 : decode cL_law 1097 = .ok (.iaload, 1) := by decide +kernel
set_option maxRecDepth 100000 in
theorem dlw_1098 : decode cL_law 1098 = .ok (.invokevirtual 194, 3) := by decide +kernel
set_option maxRecDepth 100000 in
theorem dlw_1101 : decode cL_law 1101 = .ok (.istore 6, 2) := by decide +kernel
set_option maxRecDepth 100000 in
theorem dlw_1103 : decode cL_law 1103 = .ok (.goto 84, 3) := by decide +kernel
set_option maxRecDepth 100000 in
theorem dlw_1106 : decode cL_law 1106 = .ok (.aload_n 1, 1) := by decide +kernel
set_option maxRecDepth 100000 in
theorem dlw_1107 : decode cL_law 1107 = .ok (.aload_n 0, 1) := by decide +kernel
set_option maxRecDepth 100000 in
theorem dlw_1108 : decode cL_law 1108 = .ok (.iload 4, 2) := by decide +kernel
set_option maxRecDepth 100000 in
theorem dlw_1110 : decode cL_law 1110 = .ok (.iconst 1, 1) := by decide +kernel
set_option maxRecDepth 100000 in
theorem dlw_1111 : decode cL_law 1111 = .ok (.iadd, 1) := by decide +kernel
set_option maxRecDepth 100000 in
theorem dlw_1112 : decode cL_law 1112 = .ok (.iaload, 1) := by decide +kernel
set_option maxRecDepth 100000 in
theorem dlw_1113 : decode cL_law 1113 = .ok (.aload_n 0, 1) := by decide +kernel
set_option maxRecDepth 100000 in
theorem dlw_1114 : decode cL_law 1114 = .ok (.iload 4, 2) := by decide +kernel
set_option maxRecDepth 100000 in
theorem dlw_1116 : decode cL_law 1116 = .ok (.iconst 2, 1) := by decide +kernel
set_option maxRecDepth 100000 in
theorem dlw_1117 : decode cL_law 1117 = .ok (.iadd, 1) := by decide +kernel
set_option maxRecDepth 100000 in
theorem dlw_1118 : decode cL_law 1118 = .ok (.iaload, 1) := by decide +kernel
set_option maxRecDepth 100000 in
theorem dlw_1119 : decode cL_law 1119 = .ok (.aload_n 3, 1) := by decide +kernel
set_option maxRecDepth 100000 in
theorem dlw_1120 : decode cL_law 1120 = .ok (.invokestatic 195, 3) := by decide +kernel
set_option maxRecDepth 100000 in
theorem dlw_1123 : decode cL_law 1123 = .ok (.istore 5, 2) := by decide +kernel
set_option maxRecDepth 100000 in
theorem dlw_1125 : decode cL_law 1125 = .ok (.aload_n 2, 1) := by decide +kernel
set_option maxRecDepth 100000 in
theorem dlw_1126 : decode cL_law 1126 = .ok (.aload_n 0, 1) := by decide +kernel
set_option maxRecDepth 100000 in
theorem dlw_1127 : decode cL_law 1127 = .ok (.iload 4, 2) := by decide +kernel
set_option maxRecDepth 100000 in
theorem dlw_1129 : decode cL_law 1129 = .ok (.iconst 1, 1) := by decide +kernel
set_option maxRecDepth 100000 in
theorem dlw_1130 : decode cL_law 1130 = .ok (.iadd, 1) := by decide +kernel
set_option maxRecDepth 100000 in
theorem dlw_1131 : decode cL_law 1131 = .ok (.iaload, 1) := by decide +kernel
set_option maxRecDepth 100000 in
theorem dlw_1132 : decode cL_law 1132 = .ok (.aload_n 0, 1) := by decide +kernel
set_option maxRecDepth 100000 in
theorem dlw_1133 : decode cL_law 1133 = .ok (.iload 4, 2) := by decide +kernel
set_option maxRecDepth 100000 in
theorem dlw_1135 : decode cL_law 1135 = .ok (.iconst 2, 1) := by decide +kernel
set_option maxRecDepth 100000 in
theorem dlw_1136 : decode cL_law 1136 = .ok (.iadd, 1) := by decide +kernel
set_option maxRecDepth 100000 in
theorem dlw_1137 : decode cL_law 1137 = .ok (.iaload, 1) := by decide +kernel
set_option maxRecDepth 100000 in
theorem dlw_1138 : decode cL_law 1138 = .ok (.invokevirtual 197, 3) := by decide +kernel
set_option maxRecDepth 100000 in
theorem dlw_1141 : decode cL_law 1141 = .ok (.istore 6, 2) := by decide +kernel
set_option maxRecDepth 100000 in
theorem dlw_1143 : decode cL_law 1143 = .ok (.goto 44, 3) := by decide +kernel
set_option maxRecDepth 100000 in
theorem dlw_1146 : decode cL_law 1146 = .ok (.aload_n 1, 1) := by decide +kernel
set_option maxRecDepth 100000 in
theorem dlw_1147 : decode cL_law 1147 = .ok (.aload_n 0, 1) := by decide +kernel
set_option maxRecDepth 100000 in
theorem dlw_1148 : decode cL_law 1148 = .ok (.iload 4, 2) := by decide +kernel
set_option maxRecDepth 100000 in
theorem dlw_1150 : decode cL_law 1150 = .ok (.iconst 1, 1) := by decide +kernel
set_option maxRecDepth 100000 in
theorem dlw_1151 : decode cL_law 1151 = .ok (.iadd, 1) := by decide +kernel
set_option maxRecDepth 100000 in
theorem dlw_1152 : decode cL_law 1152 = .ok (.iaload, 1) := by decide +kernel
set_option maxRecDepth 100000 in
theorem dlw_1153 : decode cL_law 1153 = .ok (.aload_n 3, 1) := by decide +kernel
set_option maxRecDepth 100000 in
theorem dlw_1154 : decode cL_law 1154 = .ok (.invokestatic 198, 3) := by decide +kernel
set_option maxRecDepth 100000 in
theorem dlw_1157 : decode cL_law 1157 = .ok (.istore 5, 2) := by decide +kernel
set_option maxRecDepth 100000 in
theorem dlw_1159 : decode cL_law 1159 = .ok (.aload_n 2, 1) := by decide +kernel
set_option maxRecDepth 100000 in
theorem dlw_1160 : decode cL_law 1160 = .ok (.aload_n 0, 1) := by decide +kernel
set_option maxRecDepth 100000 in
theorem dlw_1161 : decode cL_law 1161 = .ok (.iload 4, 2) := by decide +kernel
set_option maxRecDepth 100000 in
theorem dlw_1163 : decode cL_law 1163 = .ok (.iconst 1, 1) := by decide +kernel
set_option maxRecDepth 100000 in
theorem dlw_1164 : decode cL_law 1164 = .ok (.iadd, 1) := by decide +kernel
set_option maxRecDepth 100000 in
theorem dlw_1165 : decode cL_law 1165 = .ok (.iaload, 1) := by decide +kernel
set_option maxRecDepth 100000 in
theorem dlw_1166 : decode cL_law 1166 = .ok (.invokevirtual 200, 3) := by decide +kernel
set_option maxRecDepth 100000 in
theorem dlw_1169 : decode cL_law 1169 = .ok (.istore 6, 2) := by decide +kernel
set_option maxRecDepth 100000 in
theorem dlw_1171 : decode cL_law 1171 = .ok (.goto 16, 3) := by decide +kernel
set_option maxRecDepth 100000 in
theorem dlw_1174 : decode cL_law 1174 = .ok (.aload_n 1, 1) := by decide +kernel
set_option maxRecDepth 100000 in
theorem dlw_1175 : decode cL_law 1175 = .ok (.invokevirtual 201, 3) := by decide +kernel
set_option maxRecDepth 100000 in
theorem dlw_1178 : decode cL_law 1178 = .ok (.pop, 1) := by decide +kernel
set_option maxRecDepth 100000 in
theorem dlw_1179 : decode cL_law 1179 = .ok (.aload_n 2, 1) := by decide +kernel
set_option maxRecDepth 100000 in
theorem dlw_1180 : decode cL_law 1180 = .ok (.invokevirtual 204, 3) := by decide +kernel
set_option maxRecDepth 100000 in
theorem dlw_1183 : decode cL_law 1183 = .ok (.pop, 1) := by decide +kernel
set_option maxRecDepth 100000 in
theorem dlw_1184 : decode cL_law 1184 = .ok (.goto 3, 3) := by decide +kernel
set_option maxRecDepth 100000 in
theorem dlw_1187 : decode cL_law 1187 = .ok (.iinc 4 4, 3) := by decide +kernel
set_option maxRecDepth 100000 in
theorem dlw_1190 : decode cL_law 1190 = .ok (.goto (-1167), 3) := by decide +kernel
set_option maxRecDepth 100000 in
theorem dlw_1193 : decode cL_law 1193 = .ok (.iconst 1, 1) := by decide +kernel
set_option maxRecDepth 100000 in
theorem dlw_1194 : decode cL_law 1194 = .ok (.ireturn, 1) := by decide +kernel
end
section
/-! what stands in the law's loop: the class, the model, the text's length alike; how much was made in k calls -/
def LJ (k : Nat) (x : gd) (q : kP) (w : gd) : Prop := kU q ∧ HOI x q ∧ MI w ∧ JR3 x w ∧ q.ce ≤ 100 + wC q + k ∧ q.sl ≤ 20000 + wS q + 6 * k
theorem wC_b {q : kP} (hu : kU q) : wC q ≤ 9120 := by
  have b := hu.2.2.2.2
  have h : ∀ t : Bool, cond t 30 0 ≤ 30 := fun t => by cases t <;> decide
  have h1 := h q.hi
  have h2 := h q.ex
  have h3 := h q.t0
  have h4 := h q.t1
  unfold wC
  omega
theorem wS_b {q : kP} (hu : kU q) : wS q ≤ 900000 := by
  have b := hu.2.2.2.2
  have g : ∀ t : Bool, cond t 400 0 ≤ 400 := fun t => by cases t <;> decide
  have h : ∀ t : Bool, cond t 20000 0 ≤ 20000 := fun t => by cases t <;> decide
  have h1 := g q.hi
  have h2 := h q.ex
  have h3 := h q.t0
  have h4 := h q.t1
  unfold wS
  omega
theorem LJ_room {k : Nat} {x w : gd} {q : kP} (hJ : LJ k x q w) (hk : k < 64) : ∀ q1, kU q1 → kst q q1 → q1.ce + 200 ≤ room_1.cells ∧ q1.sl + 960000 ≤ room_1.slots := fun q1 hu1 hk1 => by
  obtain ⟨-, -, -, -, b1, b2⟩ := hJ
  have a1 := wC_b hu1
  have a2 := wS_b hu1
  have c1 := hk1.1
  have c2 := hk1.2
  exact ⟨by show q1.ce + 200 ≤ 408892; omega, by show q1.sl + 960000 ≤ 7874804; omega⟩
theorem LJ_next {k : Nat} {x w x1 w1 : gd} {q q1 : kP} (hJ : LJ k x q w) (hu1 : kU q1) (hk1 : kst q q1) (hH1 : HOI x1 q1) (hm : MI w1) (el : JR3 x1 w1) : LJ (k + 1) x1 q1 w1 := by
  obtain ⟨-, -, -, -, b1, b2⟩ := hJ
  have c1 := hk1.1
  have c2 := hk1.2
  exact ⟨hu1, hH1, hm, el, by omega, by omega⟩
theorem lv_tl {ls : Array Slot} {n : Nat} {a : Nat × Value} {t : List (Nat × Value)} (h : lv_has ls n (a :: t)) : lv_has ls n t := ⟨h.1, h.2.1, fun z hz => h.2.2 z (List.mem_cons_of_mem _ hz)⟩
theorem kc_long : Cond.constantLong RL 103 4294967295 ∈ W0 := W0_in (tp_12 (List.mem_of_getElem? (i := 163) (by decide +kernel))) rfl
theorem wcs_105 : gMs RL 105 zw_feed 4 := ⟨⟨W0_in (tp_5 (List.mem_of_getElem? (i := 41) (by decide +kernel))) rfl, W0_in (tp_5 (List.mem_of_getElem? (i := 42) (by decide +kernel))) rfl, W0_in (tp_1 (List.mem_of_getElem? (i := 0) (by decide +kernel))) rfl, wcw_feed⟩, ⟨by decide, by decide, by decide +kernel⟩, by decide, by decide⟩
theorem wcm_110 : gMv RL 110 z_feed 2 := ⟨⟨W0_in (tp_10 (List.mem_of_getElem? (i := 129) (by decide +kernel))) rfl, W0_in (tp_10 (List.mem_of_getElem? (i := 130) (by decide +kernel))) rfl, W0_in (tp_10 (List.mem_of_getElem? (i := 131) (by decide +kernel))) rfl, W0_in (tp_1 (List.mem_of_getElem? (i := 10) (by decide +kernel))) rfl, cw_feed⟩, ⟨by decide, by decide, by decide +kernel⟩, by decide, by decide⟩
theorem wcv_111 : gMv RL 111 zk_X11_wipe 0 := ⟨⟨W0_in (tp_3 (List.mem_of_getElem? (i := 92) (by decide +kernel))) rfl, W0_in (tp_3 (List.mem_of_getElem? (i := 93) (by decide +kernel))) rfl, W0_in (tp_3 (List.mem_of_getElem? (i := 94) (by decide +kernel))) rfl, W0_in (tp_1 (List.mem_of_getElem? (i := 1) (by decide +kernel))) rfl, kcw_X11_wipe⟩, ⟨by decide, by decide, by decide +kernel⟩, by decide, by decide⟩
theorem wcm_114 : gMv RL 114 z_wipe 0 := ⟨⟨W0_in (tp_10 (List.mem_of_getElem? (i := 144) (by decide +kernel))) rfl, W0_in (tp_10 (List.mem_of_getElem? (i := 145) (by decide +kernel))) rfl, W0_in (tp_10 (List.mem_of_getElem? (i := 146) (by decide +kernel))) rfl, W0_in (tp_1 (List.mem_of_getElem? (i := 10) (by decide +kernel))) rfl, cw_wipe⟩, ⟨by decide, by decide, by decide +kernel⟩, by decide, by decide⟩
theorem wcv_115 : gMv RL 115 zk_X11_compile 0 := ⟨⟨W0_in (tp_3 (List.mem_of_getElem? (i := 100) (by decide +kernel))) rfl, W0_in (tp_3 (List.mem_of_getElem? (i := 101) (by decide +kernel))) rfl, W0_in (tp_3 (List.mem_of_getElem? (i := 102) (by decide +kernel))) rfl, W0_in (tp_1 (List.mem_of_getElem? (i := 1) (by decide +kernel))) rfl, kcw_X11_compile⟩, ⟨by decide, by decide, by decide +kernel⟩, by decide, by decide⟩
theorem wcm_118 : gMv RL 118 z_compile 0 := ⟨⟨W0_in (tp_10 (List.mem_of_getElem? (i := 148) (by decide +kernel))) rfl, W0_in (tp_10 (List.mem_of_getElem? (i := 149) (by decide +kernel))) rfl, W0_in (tp_10 (List.mem_of_getElem? (i := 150) (by decide +kernel))) rfl, W0_in (tp_1 (List.mem_of_getElem? (i := 10) (by decide +kernel))) rfl, cw_compile⟩, ⟨by decide, by decide, by decide +kernel⟩, by decide, by decide⟩
theorem wcs_119 : gMs RL 119 zw_fault 3 := ⟨⟨W0_in (tp_5 (List.mem_of_getElem? (i := 70) (by decide +kernel))) rfl, W0_in (tp_5 (List.mem_of_getElem? (i := 71) (by decide +kernel))) rfl, W0_in (tp_1 (List.mem_of_getElem? (i := 0) (by decide +kernel))) rfl, wcw_fault⟩, ⟨by decide, by decide, by decide +kernel⟩, by decide, by decide⟩
theorem wcm_122 : gMv RL 122 z_fault_ 1 := ⟨⟨W0_in (tp_11 (List.mem_of_getElem? (i := 123) (by decide +kernel))) rfl, W0_in (tp_11 (List.mem_of_getElem? (i := 124) (by decide +kernel))) rfl, W0_in (tp_11 (List.mem_of_getElem? (i := 125) (by decide +kernel))) rfl, W0_in (tp_1 (List.mem_of_getElem? (i := 10) (by decide +kernel))) rfl, cw_fault_⟩, ⟨by decide, by decide, by decide +kernel⟩, by decide, by decide⟩
theorem wcs_123 : gMs RL 123 zw_count 3 := ⟨⟨W0_in (tp_5 (List.mem_of_getElem? (i := 94) (by decide +kernel))) rfl, W0_in (tp_5 (List.mem_of_getElem? (i := 95) (by decide +kernel))) rfl, W0_in (tp_1 (List.mem_of_getElem? (i := 0) (by decide +kernel))) rfl, wcw_count⟩, ⟨by decide, by decide, by decide +kernel⟩, by decide, by decide⟩
theorem wcm_125 : gMv RL 125 z_count 1 := ⟨⟨W0_in (tp_11 (List.mem_of_getElem? (i := 127) (by decide +kernel))) rfl, W0_in (tp_11 (List.mem_of_getElem? (i := 128) (by decide +kernel))) rfl, W0_in (tp_11 (List.mem_of_getElem? (i := 129) (by decide +kernel))) rfl, W0_in (tp_1 (List.mem_of_getElem? (i := 10) (by decide +kernel))) rfl, cw_count⟩, ⟨by decide, by decide, by decide +kernel⟩, by decide, by decide⟩
theorem wcs_126 : gMs RL 126 zw_begin 3 := ⟨⟨W0_in (tp_5 (List.mem_of_getElem? (i := 104) (by decide +kernel))) rfl, W0_in (tp_5 (List.mem_of_getElem? (i := 105) (by decide +kernel))) rfl, W0_in (tp_1 (List.mem_of_getElem? (i := 0) (by decide +kernel))) rfl, wcw_begin⟩, ⟨by decide, by decide, by decide +kernel⟩, by decide, by decide⟩
theorem wcm_128 : gMv RL 128 z_begin 1 := ⟨⟨W0_in (tp_11 (List.mem_of_getElem? (i := 131) (by decide +kernel))) rfl, W0_in (tp_11 (List.mem_of_getElem? (i := 132) (by decide +kernel))) rfl, W0_in (tp_11 (List.mem_of_getElem? (i := 133) (by decide +kernel))) rfl, W0_in (tp_1 (List.mem_of_getElem? (i := 10) (by decide +kernel))) rfl, cw_begin⟩, ⟨by decide, by decide, by decide +kernel⟩, by decide, by decide⟩
theorem wcs_129 : gMs RL 129 zw_choices 2 := ⟨⟨W0_in (tp_5 (List.mem_of_getElem? (i := 225) (by decide +kernel))) rfl, W0_in (tp_5 (List.mem_of_getElem? (i := 226) (by decide +kernel))) rfl, W0_in (tp_1 (List.mem_of_getElem? (i := 0) (by decide +kernel))) rfl, wcw_choices⟩, ⟨by decide, by decide, by decide +kernel⟩, by decide, by decide⟩
theorem wcm_132 : gMv RL 132 z_choices 0 := ⟨⟨W0_in (tp_11 (List.mem_of_getElem? (i := 186) (by decide +kernel))) rfl, W0_in (tp_11 (List.mem_of_getElem? (i := 187) (by decide +kernel))) rfl, W0_in (tp_11 (List.mem_of_getElem? (i := 188) (by decide +kernel))) rfl, W0_in (tp_1 (List.mem_of_getElem? (i := 10) (by decide +kernel))) rfl, cw_choices⟩, ⟨by decide, by decide, by decide +kernel⟩, by decide, by decide⟩
theorem wcs_133 : gMs RL 133 zw_choice 4 := ⟨⟨W0_in (tp_5 (List.mem_of_getElem? (i := 237) (by decide +kernel))) rfl, W0_in (tp_5 (List.mem_of_getElem? (i := 238) (by decide +kernel))) rfl, W0_in (tp_1 (List.mem_of_getElem? (i := 0) (by decide +kernel))) rfl, wcw_choice⟩, ⟨by decide, by decide, by decide +kernel⟩, by decide, by decide⟩
theorem wcm_136 : gMv RL 136 z_choice 2 := ⟨⟨W0_in (tp_11 (List.mem_of_getElem? (i := 194) (by decide +kernel))) rfl, W0_in (tp_11 (List.mem_of_getElem? (i := 195) (by decide +kernel))) rfl, W0_in (tp_11 (List.mem_of_getElem? (i := 196) (by decide +kernel))) rfl, W0_in (tp_1 (List.mem_of_getElem? (i := 10) (by decide +kernel))) rfl, cw_choice⟩, ⟨by decide, by decide, by decide +kernel⟩, by decide, by decide⟩
theorem wcs_137 : gMs RL 137 zw_go 3 := ⟨⟨W0_in (tp_6 (List.mem_of_getElem? (i := 18) (by decide +kernel))) rfl, W0_in (tp_6 (List.mem_of_getElem? (i := 19) (by decide +kernel))) rfl, W0_in (tp_1 (List.mem_of_getElem? (i := 0) (by decide +kernel))) rfl, wcw_go⟩, ⟨by decide, by decide, by decide +kernel⟩, by decide, by decide⟩
theorem wcm_139 : gMv RL 139 z_go 1 := ⟨⟨W0_in (tp_11 (List.mem_of_getElem? (i := 202) (by decide +kernel))) rfl, W0_in (tp_11 (List.mem_of_getElem? (i := 203) (by decide +kernel))) rfl, W0_in (tp_11 (List.mem_of_getElem? (i := 204) (by decide +kernel))) rfl, W0_in (tp_1 (List.mem_of_getElem? (i := 10) (by decide +kernel))) rfl, cw_go⟩, ⟨by decide, by decide, by decide +kernel⟩, by decide, by decide⟩
theorem wcs_140 : gMs RL 140 zw_draw 4 := ⟨⟨W0_in (tp_6 (List.mem_of_getElem? (i := 137) (by decide +kernel))) rfl, W0_in (tp_6 (List.mem_of_getElem? (i := 138) (by decide +kernel))) rfl, W0_in (tp_1 (List.mem_of_getElem? (i := 0) (by decide +kernel))) rfl, wcw_draw⟩, ⟨by decide, by decide, by decide +kernel⟩, by decide, by decide⟩
theorem wcm_142 : gMv RL 142 z_draw 2 := ⟨⟨W0_in (tp_11 (List.mem_of_getElem? (i := 230) (by decide +kernel))) rfl, W0_in (tp_11 (List.mem_of_getElem? (i := 231) (by decide +kernel))) rfl, W0_in (tp_11 (List.mem_of_getElem? (i := 232) (by decide +kernel))) rfl, W0_in (tp_1 (List.mem_of_getElem? (i := 10) (by decide +kernel))) rfl, cw_draw⟩, ⟨by decide, by decide, by decide +kernel⟩, by decide, by decide⟩
theorem wcs_143 : gMs RL 143 zw_again 3 := ⟨⟨W0_in (tp_6 (List.mem_of_getElem? (i := 146) (by decide +kernel))) rfl, W0_in (tp_6 (List.mem_of_getElem? (i := 147) (by decide +kernel))) rfl, W0_in (tp_1 (List.mem_of_getElem? (i := 0) (by decide +kernel))) rfl, wcw_again⟩, ⟨by decide, by decide, by decide +kernel⟩, by decide, by decide⟩
theorem wcm_145 : gMv RL 145 z_again 1 := ⟨⟨W0_in (tp_11 (List.mem_of_getElem? (i := 235) (by decide +kernel))) rfl, W0_in (tp_11 (List.mem_of_getElem? (i := 236) (by decide +kernel))) rfl, W0_in (tp_11 (List.mem_of_getElem? (i := 237) (by decide +kernel))) rfl, W0_in (tp_1 (List.mem_of_getElem? (i := 10) (by decide +kernel))) rfl, cw_again⟩, ⟨by decide, by decide, by decide +kernel⟩, by decide, by decide⟩
theorem wcs_146 : gMs RL 146 zw_run 3 := ⟨⟨W0_in (tp_6 (List.mem_of_getElem? (i := 154) (by decide +kernel))) rfl, W0_in (tp_6 (List.mem_of_getElem? (i := 155) (by decide +kernel))) rfl, W0_in (tp_1 (List.mem_of_getElem? (i := 0) (by decide +kernel))) rfl, wcw_run⟩, ⟨by decide, by decide, by decide +kernel⟩, by decide, by decide⟩
theorem wcm_148 : gMv RL 148 z_run 1 := ⟨⟨W0_in (tp_11 (List.mem_of_getElem? (i := 239) (by decide +kernel))) rfl, W0_in (tp_12 (List.mem_of_getElem? (i := 0) (by decide +kernel))) rfl, W0_in (tp_12 (List.mem_of_getElem? (i := 1) (by decide +kernel))) rfl, W0_in (tp_1 (List.mem_of_getElem? (i := 10) (by decide +kernel))) rfl, cw_run⟩, ⟨by decide, by decide, by decide +kernel⟩, by decide, by decide⟩
theorem wcs_149 : gMs RL 149 zw_cell 3 := ⟨⟨W0_in (tp_6 (List.mem_of_getElem? (i := 177) (by decide +kernel))) rfl, W0_in (tp_6 (List.mem_of_getElem? (i := 178) (by decide +kernel))) rfl, W0_in (tp_1 (List.mem_of_getElem? (i := 0) (by decide +kernel))) rfl, wcw_cell⟩, ⟨by decide, by decide, by decide +kernel⟩, by decide, by decide⟩
theorem wcm_151 : gMv RL 151 z_cell 1 := ⟨⟨W0_in (tp_12 (List.mem_of_getElem? (i := 23) (by decide +kernel))) rfl, W0_in (tp_12 (List.mem_of_getElem? (i := 24) (by decide +kernel))) rfl, W0_in (tp_12 (List.mem_of_getElem? (i := 25) (by decide +kernel))) rfl, W0_in (tp_1 (List.mem_of_getElem? (i := 10) (by decide +kernel))) rfl, cw_cell⟩, ⟨by decide, by decide, by decide +kernel⟩, by decide, by decide⟩
theorem wcs_152 : gMs RL 152 zw_seen 4 := ⟨⟨W0_in (tp_6 (List.mem_of_getElem? (i := 184) (by decide +kernel))) rfl, W0_in (tp_6 (List.mem_of_getElem? (i := 185) (by decide +kernel))) rfl, W0_in (tp_1 (List.mem_of_getElem? (i := 0) (by decide +kernel))) rfl, wcw_seen⟩, ⟨by decide, by decide, by decide +kernel⟩, by decide, by decide⟩
theorem wcm_154 : gMv RL 154 z_seen 2 := ⟨⟨W0_in (tp_12 (List.mem_of_getElem? (i := 27) (by decide +kernel))) rfl, W0_in (tp_12 (List.mem_of_getElem? (i := 28) (by decide +kernel))) rfl, W0_in (tp_12 (List.mem_of_getElem? (i := 29) (by decide +kernel))) rfl, W0_in (tp_1 (List.mem_of_getElem? (i := 10) (by decide +kernel))) rfl, cw_seen⟩, ⟨by decide, by decide, by decide +kernel⟩, by decide, by decide⟩
theorem wcs_155 : gMs RL 155 zw_lock 4 := ⟨⟨W0_in (tp_6 (List.mem_of_getElem? (i := 192) (by decide +kernel))) rfl, W0_in (tp_6 (List.mem_of_getElem? (i := 193) (by decide +kernel))) rfl, W0_in (tp_1 (List.mem_of_getElem? (i := 0) (by decide +kernel))) rfl, wcw_lock⟩, ⟨by decide, by decide, by decide +kernel⟩, by decide, by decide⟩
theorem wcm_157 : gMv RL 157 z_lock 2 := ⟨⟨W0_in (tp_12 (List.mem_of_getElem? (i := 31) (by decide +kernel))) rfl, W0_in (tp_12 (List.mem_of_getElem? (i := 32) (by decide +kernel))) rfl, W0_in (tp_12 (List.mem_of_getElem? (i := 33) (by decide +kernel))) rfl, W0_in (tp_1 (List.mem_of_getElem? (i := 10) (by decide +kernel))) rfl, cw_lock⟩, ⟨by decide, by decide, by decide +kernel⟩, by decide, by decide⟩
theorem wcs_158 : gMs RL 158 zw_thread 4 := ⟨⟨W0_in (tp_6 (List.mem_of_getElem? (i := 208) (by decide +kernel))) rfl, W0_in (tp_6 (List.mem_of_getElem? (i := 209) (by decide +kernel))) rfl, W0_in (tp_1 (List.mem_of_getElem? (i := 0) (by decide +kernel))) rfl, wcw_thread⟩, ⟨by decide, by decide, by decide +kernel⟩, by decide, by decide⟩
theorem wcm_160 : gMv RL 160 z_thread 2 := ⟨⟨W0_in (tp_12 (List.mem_of_getElem? (i := 35) (by decide +kernel))) rfl, W0_in (tp_12 (List.mem_of_getElem? (i := 36) (by decide +kernel))) rfl, W0_in (tp_12 (List.mem_of_getElem? (i := 37) (by decide +kernel))) rfl, W0_in (tp_1 (List.mem_of_getElem? (i := 10) (by decide +kernel))) rfl, cw_thread⟩, ⟨by decide, by decide, by decide +kernel⟩, by decide, by decide⟩
theorem wcs_161 : gMs RL 161 zw_local 4 := ⟨⟨W0_in (tp_6 (List.mem_of_getElem? (i := 221) (by decide +kernel))) rfl, W0_in (tp_6 (List.mem_of_getElem? (i := 222) (by decide +kernel))) rfl, W0_in (tp_1 (List.mem_of_getElem? (i := 0) (by decide +kernel))) rfl, wcw_local⟩, ⟨by decide, by decide, by decide +kernel⟩, by decide, by decide⟩
theorem wcm_163 : gMv RL 163 z_local 2 := ⟨⟨W0_in (tp_12 (List.mem_of_getElem? (i := 46) (by decide +kernel))) rfl, W0_in (tp_12 (List.mem_of_getElem? (i := 47) (by decide +kernel))) rfl, W0_in (tp_12 (List.mem_of_getElem? (i := 48) (by decide +kernel))) rfl, W0_in (tp_1 (List.mem_of_getElem? (i := 10) (by decide +kernel))) rfl, cw_local⟩, ⟨by decide, by decide, by decide +kernel⟩, by decide, by decide⟩
theorem wcs_164 : gMs RL 164 zw_act 4 := ⟨⟨W0_in (tp_6 (List.mem_of_getElem? (i := 228) (by decide +kernel))) rfl, W0_in (tp_6 (List.mem_of_getElem? (i := 229) (by decide +kernel))) rfl, W0_in (tp_1 (List.mem_of_getElem? (i := 0) (by decide +kernel))) rfl, wcw_act⟩, ⟨by decide, by decide, by decide +kernel⟩, by decide, by decide⟩
theorem wcm_166 : gMv RL 166 z_act 2 := ⟨⟨W0_in (tp_12 (List.mem_of_getElem? (i := 50) (by decide +kernel))) rfl, W0_in (tp_12 (List.mem_of_getElem? (i := 51) (by decide +kernel))) rfl, W0_in (tp_12 (List.mem_of_getElem? (i := 52) (by decide +kernel))) rfl, W0_in (tp_1 (List.mem_of_getElem? (i := 10) (by decide +kernel))) rfl, cw_act⟩, ⟨by decide, by decide, by decide +kernel⟩, by decide, by decide⟩
theorem wcs_167 : gMs RL 167 zw_before 4 := ⟨⟨W0_in (tp_6 (List.mem_of_getElem? (i := 235) (by decide +kernel))) rfl, W0_in (tp_6 (List.mem_of_getElem? (i := 236) (by decide +kernel))) rfl, W0_in (tp_1 (List.mem_of_getElem? (i := 0) (by decide +kernel))) rfl, wcw_before⟩, ⟨by decide, by decide, by decide +kernel⟩, by decide, by decide⟩
theorem wcm_169 : gMv RL 169 z_before 2 := ⟨⟨W0_in (tp_12 (List.mem_of_getElem? (i := 54) (by decide +kernel))) rfl, W0_in (tp_12 (List.mem_of_getElem? (i := 55) (by decide +kernel))) rfl, W0_in (tp_12 (List.mem_of_getElem? (i := 56) (by decide +kernel))) rfl, W0_in (tp_1 (List.mem_of_getElem? (i := 10) (by decide +kernel))) rfl, cw_before⟩, ⟨by decide, by decide, by decide +kernel⟩, by decide, by decide⟩
theorem wcs_170 : gMs RL 170 zw_race 4 := ⟨⟨W0_in (tp_7 (List.mem_of_getElem? (i := 3) (by decide +kernel))) rfl, W0_in (tp_7 (List.mem_of_getElem? (i := 4) (by decide +kernel))) rfl, W0_in (tp_1 (List.mem_of_getElem? (i := 0) (by decide +kernel))) rfl, wcw_race⟩, ⟨by decide, by decide, by decide +kernel⟩, by decide, by decide⟩
theorem wcm_172 : gMv RL 172 z_race 2 := ⟨⟨W0_in (tp_12 (List.mem_of_getElem? (i := 58) (by decide +kernel))) rfl, W0_in (tp_12 (List.mem_of_getElem? (i := 59) (by decide +kernel))) rfl, W0_in (tp_12 (List.mem_of_getElem? (i := 60) (by decide +kernel))) rfl, W0_in (tp_1 (List.mem_of_getElem? (i := 10) (by decide +kernel))) rfl, cw_race⟩, ⟨by decide, by decide, by decide +kernel⟩, by decide, by decide⟩
theorem wcs_173 : gMs RL 173 zw_linear 3 := ⟨⟨W0_in (tp_7 (List.mem_of_getElem? (i := 18) (by decide +kernel))) rfl, W0_in (tp_7 (List.mem_of_getElem? (i := 19) (by decide +kernel))) rfl, W0_in (tp_1 (List.mem_of_getElem? (i := 0) (by decide +kernel))) rfl, wcw_linear⟩, ⟨by decide, by decide, by decide +kernel⟩, by decide, by decide⟩
theorem wcm_175 : gMv RL 175 z_linear 1 := ⟨⟨W0_in (tp_12 (List.mem_of_getElem? (i := 62) (by decide +kernel))) rfl, W0_in (tp_12 (List.mem_of_getElem? (i := 63) (by decide +kernel))) rfl, W0_in (tp_12 (List.mem_of_getElem? (i := 64) (by decide +kernel))) rfl, W0_in (tp_1 (List.mem_of_getElem? (i := 10) (by decide +kernel))) rfl, cw_linear⟩, ⟨by decide, by decide, by decide +kernel⟩, by decide, by decide⟩
theorem wcs_176 : gMs RL 176 zw_attempt 4 := ⟨⟨W0_in (tp_7 (List.mem_of_getElem? (i := 126) (by decide +kernel))) rfl, W0_in (tp_7 (List.mem_of_getElem? (i := 127) (by decide +kernel))) rfl, W0_in (tp_1 (List.mem_of_getElem? (i := 0) (by decide +kernel))) rfl, wcw_attempt⟩, ⟨by decide, by decide, by decide +kernel⟩, by decide, by decide⟩
theorem wcm_178 : gMv RL 178 z_attempt 2 := ⟨⟨W0_in (tp_12 (List.mem_of_getElem? (i := 86) (by decide +kernel))) rfl, W0_in (tp_12 (List.mem_of_getElem? (i := 87) (by decide +kernel))) rfl, W0_in (tp_12 (List.mem_of_getElem? (i := 88) (by decide +kernel))) rfl, W0_in (tp_1 (List.mem_of_getElem? (i := 10) (by decide +kernel))) rfl, cw_attempt⟩, ⟨by decide, by decide, by decide +kernel⟩, by decide, by decide⟩
theorem wcs_179 : gMs RL 179 zw_tried 4 := ⟨⟨W0_in (tp_8 (List.mem_of_getElem? (i := 112) (by decide +kernel))) rfl, W0_in (tp_8 (List.mem_of_getElem? (i := 113) (by decide +kernel))) rfl, W0_in (tp_1 (List.mem_of_getElem? (i := 0) (by decide +kernel))) rfl, wcw_tried⟩, ⟨by decide, by decide, by decide +kernel⟩, by decide, by decide⟩
theorem wcm_181 : gMv RL 181 z_tried 2 := ⟨⟨W0_in (tp_12 (List.mem_of_getElem? (i := 135) (by decide +kernel))) rfl, W0_in (tp_12 (List.mem_of_getElem? (i := 136) (by decide +kernel))) rfl, W0_in (tp_12 (List.mem_of_getElem? (i := 137) (by decide +kernel))) rfl, W0_in (tp_1 (List.mem_of_getElem? (i := 10) (by decide +kernel))) rfl, cw_tried⟩, ⟨by decide, by decide, by decide +kernel⟩, by decide, by decide⟩
theorem wcs_182 : gMs RL 182 zw_outcome 5 := ⟨⟨W0_in (tp_8 (List.mem_of_getElem? (i := 119) (by decide +kernel))) rfl, W0_in (tp_8 (List.mem_of_getElem? (i := 120) (by decide +kernel))) rfl, W0_in (tp_1 (List.mem_of_getElem? (i := 0) (by decide +kernel))) rfl, wcw_outcome⟩, ⟨by decide, by decide, by decide +kernel⟩, by decide, by decide⟩
theorem wcm_185 : gMv RL 185 z_outcome 3 := ⟨⟨W0_in (tp_12 (List.mem_of_getElem? (i := 139) (by decide +kernel))) rfl, W0_in (tp_12 (List.mem_of_getElem? (i := 140) (by decide +kernel))) rfl, W0_in (tp_12 (List.mem_of_getElem? (i := 141) (by decide +kernel))) rfl, W0_in (tp_1 (List.mem_of_getElem? (i := 10) (by decide +kernel))) rfl, cw_outcome⟩, ⟨by decide, by decide, by decide +kernel⟩, by decide, by decide⟩
theorem wcs_186 : gMs RL 186 zw_finding 4 := ⟨⟨W0_in (tp_8 (List.mem_of_getElem? (i := 130) (by decide +kernel))) rfl, W0_in (tp_8 (List.mem_of_getElem? (i := 131) (by decide +kernel))) rfl, W0_in (tp_1 (List.mem_of_getElem? (i := 0) (by decide +kernel))) rfl, wcw_finding⟩, ⟨by decide, by decide, by decide +kernel⟩, by decide, by decide⟩
theorem wcm_188 : gMv RL 188 z_finding 2 := ⟨⟨W0_in (tp_12 (List.mem_of_getElem? (i := 143) (by decide +kernel))) rfl, W0_in (tp_12 (List.mem_of_getElem? (i := 144) (by decide +kernel))) rfl, W0_in (tp_12 (List.mem_of_getElem? (i := 145) (by decide +kernel))) rfl, W0_in (tp_1 (List.mem_of_getElem? (i := 10) (by decide +kernel))) rfl, cw_finding⟩, ⟨by decide, by decide, by decide +kernel⟩, by decide, by decide⟩
theorem wcm_189 : gMv RL 189 z_thrown 0 := ⟨⟨W0_in (tp_10 (List.mem_of_getElem? (i := 125) (by decide +kernel))) rfl, W0_in (tp_10 (List.mem_of_getElem? (i := 126) (by decide +kernel))) rfl, W0_in (tp_10 (List.mem_of_getElem? (i := 127) (by decide +kernel))) rfl, W0_in (tp_1 (List.mem_of_getElem? (i := 10) (by decide +kernel))) rfl, cw_thrown⟩, ⟨by decide, by decide, by decide +kernel⟩, by decide, by decide⟩
theorem wcs_192 : gMs RL 192 zw_show 4 := ⟨⟨W0_in (tp_8 (List.mem_of_getElem? (i := 145) (by decide +kernel))) rfl, W0_in (tp_8 (List.mem_of_getElem? (i := 146) (by decide +kernel))) rfl, W0_in (tp_1 (List.mem_of_getElem? (i := 0) (by decide +kernel))) rfl, wcw_show⟩, ⟨by decide, by decide, by decide +kernel⟩, by decide, by decide⟩
theorem wcm_194 : gMv RL 194 z_show 2 := ⟨⟨W0_in (tp_12 (List.mem_of_getElem? (i := 147) (by decide +kernel))) rfl, W0_in (tp_12 (List.mem_of_getElem? (i := 148) (by decide +kernel))) rfl, W0_in (tp_12 (List.mem_of_getElem? (i := 149) (by decide +kernel))) rfl, W0_in (tp_1 (List.mem_of_getElem? (i := 10) (by decide +kernel))) rfl, cw_show⟩, ⟨by decide, by decide, by decide +kernel⟩, by decide, by decide⟩
theorem wcs_195 : gMs RL 195 zw_common 4 := ⟨⟨W0_in (tp_8 (List.mem_of_getElem? (i := 157) (by decide +kernel))) rfl, W0_in (tp_8 (List.mem_of_getElem? (i := 158) (by decide +kernel))) rfl, W0_in (tp_1 (List.mem_of_getElem? (i := 0) (by decide +kernel))) rfl, wcw_common⟩, ⟨by decide, by decide, by decide +kernel⟩, by decide, by decide⟩
theorem wcm_197 : gMv RL 197 z_common 2 := ⟨⟨W0_in (tp_12 (List.mem_of_getElem? (i := 151) (by decide +kernel))) rfl, W0_in (tp_12 (List.mem_of_getElem? (i := 152) (by decide +kernel))) rfl, W0_in (tp_12 (List.mem_of_getElem? (i := 153) (by decide +kernel))) rfl, W0_in (tp_1 (List.mem_of_getElem? (i := 10) (by decide +kernel))) rfl, cw_common⟩, ⟨by decide, by decide, by decide +kernel⟩, by decide, by decide⟩
theorem wcs_198 : gMs RL 198 zw_ring 3 := ⟨⟨W0_in (tp_8 (List.mem_of_getElem? (i := 164) (by decide +kernel))) rfl, W0_in (tp_8 (List.mem_of_getElem? (i := 165) (by decide +kernel))) rfl, W0_in (tp_1 (List.mem_of_getElem? (i := 0) (by decide +kernel))) rfl, wcw_ring⟩, ⟨by decide, by decide, by decide +kernel⟩, by decide, by decide⟩
theorem wcm_200 : gMv RL 200 z_ring 1 := ⟨⟨W0_in (tp_12 (List.mem_of_getElem? (i := 155) (by decide +kernel))) rfl, W0_in (tp_12 (List.mem_of_getElem? (i := 156) (by decide +kernel))) rfl, W0_in (tp_12 (List.mem_of_getElem? (i := 157) (by decide +kernel))) rfl, W0_in (tp_1 (List.mem_of_getElem? (i := 10) (by decide +kernel))) rfl, cw_ring⟩, ⟨by decide, by decide, by decide +kernel⟩, by decide, by decide⟩
theorem wcv_201 : gMv RL 201 zk_X11_alike 0 := ⟨⟨W0_in (tp_5 (List.mem_of_getElem? (i := 26) (by decide +kernel))) rfl, W0_in (tp_5 (List.mem_of_getElem? (i := 27) (by decide +kernel))) rfl, W0_in (tp_5 (List.mem_of_getElem? (i := 28) (by decide +kernel))) rfl, W0_in (tp_1 (List.mem_of_getElem? (i := 1) (by decide +kernel))) rfl, kcw_X11_alike⟩, ⟨by decide, by decide, by decide +kernel⟩, by decide, by decide⟩
theorem wcm_204 : gMv RL 204 z_alike 0 := ⟨⟨W0_in (tp_12 (List.mem_of_getElem? (i := 159) (by decide +kernel))) rfl, W0_in (tp_12 (List.mem_of_getElem? (i := 160) (by decide +kernel))) rfl, W0_in (tp_12 (List.mem_of_getElem? (i := 161) (by decide +kernel))) rfl, W0_in (tp_1 (List.mem_of_getElem? (i := 10) (by decide +kernel))) rfl, cw_alike⟩, ⟨by decide, by decide, by decide +kernel⟩, by decide, by decide⟩
end
section
set_option maxRecDepth 100000 in
set_option maxHeartbeats 4000000 in
theorem lc_0 {p : Program} {e : Env} {s : State} {m : MethodId} {args : Array Value} {below : List Frame} {meth : Method} {c : Code} {H : Heap} {locs : List Loc} {Q : State → Prop} {ls : Array Slot} {A : Nat → Prop} {G : kG} {x w : gd} {q : kP} {x0 m0 o0 b L k : Nat} {xs : Nat → Int32} {i : Int32} (C : gC (wE (kE G)) 1000 yLaw p room_1 s m args meth c A) (hX : va_X b L xs s s.heap) (hbl : b < s.heap.size) (hbA : ¬ A b) (hI : LI G A H x q w x0 m0 o0) (hJ : LJ k x q w) (hk : k < 64) (hS : va_S A s.heap H locs) (v1 : vp_in (i + 1) L) (v2 : vp_in (i + 2) L) (v3 : vp_in (i + 3) L) (hl : lv_has ls 7 [(4, .int i), (3, .ref o0), (2, .ref m0), (1, .ref x0), (0, .ref b)]) (kk : ∀ (x1 : gd) (q1 : kP) (w1 : gd) (H1 : Heap) (locs1 : List Loc) (ls1 : Array Slot), LI G A H1 x1 q1 w1 x0 m0 o0 → LJ (k + 1) x1 q1 w1 → va_S A s.heap H1 locs1 → lv_has ls1 7 [(4, .int i), (3, .ref o0), (2, .ref m0), (1, .ref x0), (0, .ref b)] → W p G.1 e room_1 s m args below meth c H1 locs1 (q1.ce + 200) (q1.sl + 960000) Q (F0 m 1187 ls1 [])) : W p G.1 e room_1 s m args below meth c H locs (q.ce + 200) (q.sl + 960000) Q (F0 m 168 ls []) := by
  have hx := C.1.1
  have hb : c.code = cL_law := C.1.2.1
  obtain ⟨hu, hH, hm, el, b1, b2⟩ := id hJ
  obtain ⟨C9, wr, n9, lm, hj⟩ := el
  have el := JH_J hj
  refine lv_aload_n hx hb dlw_168 rfl (lv_at hl 3 rfl) ?_
  refine lv_aload_n hx hb dlw_169 rfl (lv_at hl 4 rfl) ?_
  refine lv_iload hx hb dlw_170 (lv_at hl 0 rfl) ?_
  refine lv_iconst (v := 1) hx hb dlw_172 (by decide +kernel) ?_
  refine lv_iadd hx hb dlw_173 ?_
  refine va_sld hx hb hX hbl hbA hS (i := i + 1) v1 dlw_174 ?_
  refine lv_aload_n hx hb dlw_175 rfl (lv_at hl 4 rfl) ?_
  refine lv_iload hx hb dlw_176 (lv_at hl 0 rfl) ?_
  refine lv_iconst (v := 2) hx hb dlw_178 (by decide +kernel) ?_
  refine lv_iadd hx hb dlw_179 ?_
  refine va_sld hx hb hX hbl hbA hS (i := i + 2) v2 dlw_180 ?_
  refine lv_i2l (v := (xs (i + 2).toNatClampNeg).toInt64) hx hb dlw_181 rfl ?_
  refine lv_bipush (v := 32) hx hb dlw_182 (by decide +kernel) ?_
  refine lv_lshl (v := (xs (i + 2).toNatClampNeg).toInt64 <<< ((32 : Int32).toInt64 &&& 63)) hx hb dlw_184 rfl ?_
  refine lv_aload_n hx hb dlw_185 rfl (lv_at hl 4 rfl) ?_
  refine lv_iload hx hb dlw_186 (lv_at hl 0 rfl) ?_
  refine lv_iconst (v := 3) hx hb dlw_188 (by decide +kernel) ?_
  refine lv_iadd hx hb dlw_189 ?_
  refine va_sld hx hb hX hbl hbA hS (i := i + 3) v3 dlw_190 ?_
  refine lv_i2l (v := (xs (i + 3).toNatClampNeg).toInt64) hx hb dlw_191 rfl ?_
  refine lv_ldc2 (v := 4294967295) hx hb C.1.2.2.2.1 (C.1.2.2.2.2 _ kc_long) dlw_192 ?_
  refine lv_land hx hb dlw_195 ?_
  refine lv_lor hx hb dlw_196 ?_
  refine lv_aload_n hx hb dlw_197 rfl (lv_at hl 1 rfl) ?_
  refine LI_S C hI hu hS hl.1 [vi (xs (i + 1).toNatClampNeg), vl ((((xs (i + 2).toNatClampNeg).toInt64 <<< ((32 : Int32).toInt64 &&& 63)) ||| ((xs (i + 3).toNatClampNeg).toInt64 &&& 4294967295)))] [.int (xs (i + 1).toNatClampNeg), .long ((((xs (i + 2).toNatClampNeg).toInt64 <<< ((32 : Int32).toInt64 &&& 63)) ||| ((xs (i + 3).toNatClampNeg).toInt64 &&& 4294967295)))] (fun _ => rfl) dlw_198 wcs_105 rfl (by intro h; cases h) (Nat.le_of_ble_eq_true rfl) (kw_feed (d := 870) hu hH (xs (i + 1).toNatClampNeg) ((((xs (i + 2).toNatClampNeg).toInt64 <<< ((32 : Int32).toInt64 &&& 63)) ||| ((xs (i + 3).toNatClampNeg).toInt64 &&& 4294967295)))) (LJ_room hJ hk) (fun r1 x1 q1 H1 locs1 hI hu1 hk1 hH1 hp1 hS => ?_)
  refine lv_istore (lv' := (5, .int r1) :: [(4, .int i), (3, .ref o0), (2, .ref m0), (1, .ref x0), (0, .ref b)]) hx hb dlw_201 hl (by decide) rfl (fun ls hl => ?_)
  refine lv_aload_n hx hb dlw_203 rfl (lv_at hl 3 rfl) ?_
  refine lv_aload_n hx hb dlw_204 rfl (lv_at hl 5 rfl) ?_
  refine lv_iload hx hb dlw_205 (lv_at hl 1 rfl) ?_
  refine lv_iconst (v := 1) hx hb dlw_207 (by decide +kernel) ?_
  refine lv_iadd hx hb dlw_208 ?_
  refine va_sld hx hb hX hbl hbA hS (i := i + 1) v1 dlw_209 ?_
  refine lv_aload_n hx hb dlw_210 rfl (lv_at hl 5 rfl) ?_
  refine lv_iload hx hb dlw_211 (lv_at hl 1 rfl) ?_
  refine lv_iconst (v := 2) hx hb dlw_213 (by decide +kernel) ?_
  refine lv_iadd hx hb dlw_214 ?_
  refine va_sld hx hb hX hbl hbA hS (i := i + 2) v2 dlw_215 ?_
  refine lv_i2l (v := (xs (i + 2).toNatClampNeg).toInt64) hx hb dlw_216 rfl ?_
  refine lv_bipush (v := 32) hx hb dlw_217 (by decide +kernel) ?_
  refine lv_lshl (v := (xs (i + 2).toNatClampNeg).toInt64 <<< ((32 : Int32).toInt64 &&& 63)) hx hb dlw_219 rfl ?_
  refine lv_aload_n hx hb dlw_220 rfl (lv_at hl 5 rfl) ?_
  refine lv_iload hx hb dlw_221 (lv_at hl 1 rfl) ?_
  refine lv_iconst (v := 3) hx hb dlw_223 (by decide +kernel) ?_
  refine lv_iadd hx hb dlw_224 ?_
  refine va_sld hx hb hX hbl hbA hS (i := i + 3) v3 dlw_225 ?_
  refine lv_i2l (v := (xs (i + 3).toNatClampNeg).toInt64) hx hb dlw_226 rfl ?_
  refine lv_ldc2 (v := 4294967295) hx hb C.1.2.2.2.1 (C.1.2.2.2.2 _ kc_long) dlw_227 ?_
  refine lv_land hx hb dlw_230 ?_
  refine lv_lor hx hb dlw_231 ?_
  refine LI_M C hI hS hl.1 (restv := []) (d1 := 900) (F := fun _ w1 => MI w1 ∧ (okF w (xs (i + 1).toNatClampNeg) → ((w1.1 0 2 = w.1 0 2 + xs (i + 1).toNatClampNeg ∧ FBm w ((((xs (i + 2).toNatClampNeg).toInt64 <<< ((32 : Int32).toInt64 &&& 63)) ||| ((xs (i + 3).toNatClampNeg).toInt64 &&& 4294967295))) (xs (i + 1).toNatClampNeg).toNatClampNeg w1) ∧ w1.1 0 66 = 0 ∧ z5 w1) ∧ ZM w1) ∧ (¬ okF w (xs (i + 1).toNatClampNeg) → rdM C9 wr w w1)) [vi (xs (i + 1).toNatClampNeg), vl ((((xs (i + 2).toNatClampNeg).toInt64 <<< ((32 : Int32).toInt64 &&& 63)) ||| ((xs (i + 3).toNatClampNeg).toInt64 &&& 4294967295)))] [.int (xs (i + 1).toNatClampNeg), .long ((((xs (i + 2).toNatClampNeg).toInt64 <<< ((32 : Int32).toInt64 &&& 63)) ||| ((xs (i + 3).toNatClampNeg).toInt64 &&& 4294967295)))] (fun _ => rfl) dlw_232 wcm_110 rfl rfl (Nat.le_of_ble_eq_true rfl) (by decide) (by omega) (sp_feed (d := 899) (xs (i + 1).toNatClampNeg) ((((xs (i + 2).toNatClampNeg).toInt64 <<< ((32 : Int32).toInt64 &&& 63)) ||| ((xs (i + 3).toNatClampNeg).toInt64 &&& 4294967295))) hm.1 (fun hn w1 hmd _ => ⟨(MI_0 (mi_of hmd) hm).1, fun e9 => absurd e9 hn, fun _ => rd_0 (mi_of hmd) hm⟩) (fun hy w1 hg _ e9 => ⟨MI_wG hg, fun _ => ⟨⟨e9, hg.2.1, hg.2.2.2.2.2⟩, hg.2.2.1, hg.2.2.2.1, hg.2.2.2.2.1⟩, fun e8 => absurd hy e8⟩)) ⟨(LJ_room hJ hk q1 hu1 hk1).1, (LJ_room hJ hk q1 hu1 hk1).2⟩ (fun r2 w1 H1 locs1 hI hpm hS => ?_)
  refine lv_istore (lv' := (6, .int r2) :: (5, .int r1) :: [(4, .int i), (3, .ref o0), (2, .ref m0), (1, .ref x0), (0, .ref b)]) hx hb dlw_235 hl (by decide) rfl (fun ls hl => ?_)
  refine lv_goto (tgt := 1187) hx hb dlw_237 (by decide) ?_
  refine kk x1 q1 w1 H1 locs1 ls hI (LJ_next hJ hu1 hk1 hH1 hpm.1 ?_) hS (lv_tl (lv_tl hl))
  by_cases ho : okk x (xs (i + 1).toNatClampNeg)
  · have hoF : okF w (xs (i + 1).toNatClampNeg) := by
      unfold okk at ho; unfold okF; rw [← el.1.1]; exact ho
    obtain ⟨⟨a1, a2, a3⟩, a4⟩ := hp1.1 ho
    obtain ⟨⟨⟨c1, c2⟩, c3, c4⟩, c5⟩ := hpm.2.1 hoF
    have hL := hH.1
    unfold kL at hL
    unfold okk at ho
    exact JR3_z (JR_feed el ho hL.1 a1 a2 a3 c1 c2 c3 c4) a4 c5
  · have hoF : ¬ okF w (xs (i + 1).toNatClampNeg) := fun h => ho (by unfold okF at h; unfold okk; rw [el.1.1]; exact h)
    exact JQ_rd hj hH1 (hp1.2 ho) (hpm.2.2 hoF)
set_option maxRecDepth 100000 in
set_option maxHeartbeats 4000000 in
theorem lc_1 {p : Program} {e : Env} {s : State} {m : MethodId} {args : Array Value} {below : List Frame} {meth : Method} {c : Code} {H : Heap} {locs : List Loc} {Q : State → Prop} {ls : Array Slot} {A : Nat → Prop} {G : kG} {x w : gd} {q : kP} {x0 m0 o0 b L k : Nat} {xs : Nat → Int32} {i : Int32} (C : gC (wE (kE G)) 1000 yLaw p room_1 s m args meth c A) (hX : va_X b L xs s s.heap) (hbl : b < s.heap.size) (hbA : ¬ A b) (hI : LI G A H x q w x0 m0 o0) (hJ : LJ k x q w) (hk : k < 64) (hS : va_S A s.heap H locs) (v1 : vp_in (i + 1) L) (v2 : vp_in (i + 2) L) (v3 : vp_in (i + 3) L) (hl : lv_has ls 7 [(4, .int i), (3, .ref o0), (2, .ref m0), (1, .ref x0), (0, .ref b)]) (kk : ∀ (x1 : gd) (q1 : kP) (w1 : gd) (H1 : Heap) (locs1 : List Loc) (ls1 : Array Slot), LI G A H1 x1 q1 w1 x0 m0 o0 → LJ (k + 1) x1 q1 w1 → va_S A s.heap H1 locs1 → lv_has ls1 7 [(4, .int i), (3, .ref o0), (2, .ref m0), (1, .ref x0), (0, .ref b)] → W p G.1 e room_1 s m args below meth c H1 locs1 (q1.ce + 200) (q1.sl + 960000) Q (F0 m 1187 ls1 [])) : W p G.1 e room_1 s m args below meth c H locs (q.ce + 200) (q.sl + 960000) Q (F0 m 240 ls []) := by
  have hx := C.1.1
  have hb : c.code = cL_law := C.1.2.1
  obtain ⟨hu, hH, hm, el, b1, b2⟩ := id hJ
  obtain ⟨C9, wr, n9, lm, hj⟩ := el
  have el := JH_J hj
  refine lv_aload_n hx hb dlw_240 rfl (lv_at hl 3 rfl) ?_
  refine LI_K C hI hu hS hl.1 (restv := []) (P := fun r9 y9 _ => r9 = x.1 20 1 ∧ ((y9.1 20 1 = 0 ∧ y9.1 0 9 = 0) ∧ ZR y9)) dlw_241 wcv_111 rfl (Nat.le_of_ble_eq_true rfl) (by decide) (T_mono (kr_wipe (d := 899) hu.1 hH (P := fun v9 y9 => v9 = some (vi (x.1 20 1)) ∧ HOI y9 q ∧ ((y9.1 20 1 = 0 ∧ y9.1 0 9 = 0) ∧ ZR y9)) (fun y9 h1 h2 => ⟨rfl, h1, h2⟩)) (fun o9 x9 f9 w9 => by obtain ⟨rfl, v, rfl, rfl, h1, h2⟩ := w9; exact ⟨_, q, rfl, rfl, hu, kst_rf q, h1, rfl, h2⟩)) (LJ_room hJ hk) (fun r1 x1 x2 q1 H1 locs1 hI hu1 hk1 hH1 hp1 ex hS => ?_)
  refine lv_pop hx hb dlw_244 rfl ?_
  refine lv_aload_n hx hb dlw_245 rfl (lv_at hl 2 rfl) ?_
  refine LI_M C hI hS hl.1 (restv := []) (d1 := 900) (F := fun r9 w1 => r9 = w.1 0 2 ∧ MI w1 ∧ ((w1.1 0 2 = 0 ∧ w1.1 0 66 = 0 ∧ z5 w1) ∧ ZM w1)) [] [] (fun _ => rfl) dlw_246 wcm_114 rfl rfl (Nat.le_of_ble_eq_true rfl) (by decide) (by omega) (sp_wipe (d := 899) hm.1 (fun w1 hg e9 => ⟨rfl, MI_wG hg, ⟨e9, hg.2.1, hg.2.2.2.2.2⟩, hg.2.2.1, hg.2.2.2.1, hg.2.2.2.2.1⟩)) ⟨(LJ_room hJ hk q1 hu1 hk1).1, (LJ_room hJ hk q1 hu1 hk1).2⟩ (fun r2 w1 H1 locs1 hI hpm hS => ?_)
  refine lv_pop hx hb dlw_249 rfl ?_
  refine lv_goto (tgt := 1187) hx hb dlw_250 (by decide) ?_
  exact kk x1 q1 w1 H1 locs1 ls hI (LJ_next hJ hu1 hk1 hH1 hpm.2.1 (JR3_x ex (JR3_z (JR_wipe hp1.2.1.1 hp1.2.1.2 hpm.2.2.1.1 hpm.2.2.1.2.1 hpm.2.2.1.2.2) hp1.2.2 hpm.2.2.2))) hS hl
set_option maxRecDepth 100000 in
set_option maxHeartbeats 4000000 in
theorem lc_2 {p : Program} {e : Env} {s : State} {m : MethodId} {args : Array Value} {below : List Frame} {meth : Method} {c : Code} {H : Heap} {locs : List Loc} {Q : State → Prop} {ls : Array Slot} {A : Nat → Prop} {G : kG} {x w : gd} {q : kP} {x0 m0 o0 b L k : Nat} {xs : Nat → Int32} {i : Int32} (C : gC (wE (kE G)) 1000 yLaw p room_1 s m args meth c A) (hX : va_X b L xs s s.heap) (hbl : b < s.heap.size) (hbA : ¬ A b) (hI : LI G A H x q w x0 m0 o0) (hJ : LJ k x q w) (hk : k < 64) (hS : va_S A s.heap H locs) (v1 : vp_in (i + 1) L) (v2 : vp_in (i + 2) L) (v3 : vp_in (i + 3) L) (hl : lv_has ls 7 [(4, .int i), (3, .ref o0), (2, .ref m0), (1, .ref x0), (0, .ref b)]) (kk : ∀ (x1 : gd) (q1 : kP) (w1 : gd) (H1 : Heap) (locs1 : List Loc) (ls1 : Array Slot), LI G A H1 x1 q1 w1 x0 m0 o0 → LJ (k + 1) x1 q1 w1 → va_S A s.heap H1 locs1 → lv_has ls1 7 [(4, .int i), (3, .ref o0), (2, .ref m0), (1, .ref x0), (0, .ref b)] → W p G.1 e room_1 s m args below meth c H1 locs1 (q1.ce + 200) (q1.sl + 960000) Q (F0 m 1187 ls1 [])) : W p G.1 e room_1 s m args below meth c H locs (q.ce + 200) (q.sl + 960000) Q (F0 m 253 ls []) := by
  have hx := C.1.1
  have hb : c.code = cL_law := C.1.2.1
  obtain ⟨hu, hH, hm, el, b1, b2⟩ := id hJ
  obtain ⟨C9, wr, n9, lm, hj⟩ := el
  have el := JH_J hj
  refine lv_aload_n hx hb dlw_253 rfl (lv_at hl 3 rfl) ?_
  refine LI_K C hI hu hS hl.1 (restv := []) (P := fun _ y9 _ => y9.1 20 1 = x.1 20 1 ∧ CCf x y9 ∧ ZR y9) dlw_254 wcv_115 rfl (Nat.le_of_ble_eq_true rfl) (by decide) (T_mono (kr_compile (d := 886) hu hH (P := fun v9 y9 q9 => ∃ r, v9 = some (vi r) ∧ kU q9 ∧ kst q q9 ∧ HOI y9 q9 ∧ (y9.1 20 1 = x.1 20 1 ∧ CCf x y9 ∧ ZR y9)) (X := fun _ _ _ => False) (fun r y9 q9 hq9 g1 g2 g3 g4 g5 => ⟨r, rfl, g1, by rcases hq9 with e9 | e9 <;> rw [e9] <;> first | exact kst_rf q | exact kst_th q, g2, g3, g4, g5⟩)) (fun o9 x9 f9 w9 => by
    obtain ⟨q9, ⟨rfl, v, rfl, r, rfl, g1, g2, g3, g4⟩ | ⟨-, c9, -, hf⟩⟩ := w9
    · exact ⟨r, q9, rfl, rfl, g1, g2, g3, g4⟩
    · exact hf.elim)) (LJ_room hJ hk) (fun r1 x1 x2 q1 H1 locs1 hI hu1 hk1 hH1 hp1 ex hS => ?_)
  refine lv_pop hx hb dlw_257 rfl ?_
  refine lv_aload_n hx hb dlw_258 rfl (lv_at hl 2 rfl) ?_
  refine LI_M C hI hS hl.1 (restv := []) (d1 := 900) (F := fun _ w1 => ((MI w1 ∧ w1.1 0 2 = w.1 0 2) ∧ ZM w1) ∧ MCf w w1) [] [] (fun _ => rfl) dlw_259 wcm_118 rfl rfl (Nat.le_of_ble_eq_true rfl) (by decide) (by omega) (sf_compile (by omega) hm.1 (fun _ _ h h2 => ⟨⟨MI_cG h, h.2.2.2.1, h.2.2.2.2.1, h.2.2.2.2.2⟩, h2⟩)) ⟨(LJ_room hJ hk q1 hu1 hk1).1, (LJ_room hJ hk q1 hu1 hk1).2⟩ (fun r2 w1 H1 locs1 hI hpm hS => ?_)
  refine lv_pop hx hb dlw_262 rfl ?_
  refine lv_goto (tgt := 1187) hx hb dlw_263 (by decide) ?_
  exact kk x1 q1 w1 H1 locs1 ls hI (LJ_next hJ hu1 hk1 hH1 hpm.1.1.1 (JR3_x ex (JR3_z (JR_comp el.1 hp1.2.1 hp1.1 hpm.2 hpm.1.1.2 hpm.1.1.1.2.1) hp1.2.2 hpm.1.2))) hS hl
set_option maxRecDepth 100000 in
set_option maxHeartbeats 4000000 in
theorem lc_3 {p : Program} {e : Env} {s : State} {m : MethodId} {args : Array Value} {below : List Frame} {meth : Method} {c : Code} {H : Heap} {locs : List Loc} {Q : State → Prop} {ls : Array Slot} {A : Nat → Prop} {G : kG} {x w : gd} {q : kP} {x0 m0 o0 b L k : Nat} {xs : Nat → Int32} {i : Int32} (C : gC (wE (kE G)) 1000 yLaw p room_1 s m args meth c A) (hX : va_X b L xs s s.heap) (hbl : b < s.heap.size) (hbA : ¬ A b) (hI : LI G A H x q w x0 m0 o0) (hJ : LJ k x q w) (hk : k < 64) (hS : va_S A s.heap H locs) (v1 : vp_in (i + 1) L) (v2 : vp_in (i + 2) L) (v3 : vp_in (i + 3) L) (hl : lv_has ls 7 [(4, .int i), (3, .ref o0), (2, .ref m0), (1, .ref x0), (0, .ref b)]) (kk : ∀ (x1 : gd) (q1 : kP) (w1 : gd) (H1 : Heap) (locs1 : List Loc) (ls1 : Array Slot), LI G A H1 x1 q1 w1 x0 m0 o0 → LJ (k + 1) x1 q1 w1 → va_S A s.heap H1 locs1 → lv_has ls1 7 [(4, .int i), (3, .ref o0), (2, .ref m0), (1, .ref x0), (0, .ref b)] → W p G.1 e room_1 s m args below meth c H1 locs1 (q1.ce + 200) (q1.sl + 960000) Q (F0 m 1187 ls1 [])) : W p G.1 e room_1 s m args below meth c H locs (q.ce + 200) (q.sl + 960000) Q (F0 m 266 ls []) := by
  have hx := C.1.1
  have hb : c.code = cL_law := C.1.2.1
  obtain ⟨hu, hH, hm, el, b1, b2⟩ := id hJ
  obtain ⟨C9, wr, n9, lm, hj⟩ := el
  have el := JH_J hj
  refine lv_aload_n hx hb dlw_266 rfl (lv_at hl 3 rfl) ?_
  refine lv_aload_n hx hb dlw_267 rfl (lv_at hl 4 rfl) ?_
  refine lv_iload hx hb dlw_268 (lv_at hl 0 rfl) ?_
  refine lv_iconst (v := 1) hx hb dlw_270 (by decide +kernel) ?_
  refine lv_iadd hx hb dlw_271 ?_
  refine va_sld hx hb hX hbl hbA hS (i := i + 1) v1 dlw_272 ?_
  refine lv_aload_n hx hb dlw_273 rfl (lv_at hl 1 rfl) ?_
  refine LI_S C hI hu hS hl.1 [vi (xs (i + 1).toNatClampNeg)] [.int (xs (i + 1).toNatClampNeg)] (fun _ => rfl) dlw_274 wcs_119 rfl (by intro h; cases h) (Nat.le_of_ble_eq_true rfl) (kw_fault (d := 870) hu hH (xs (i + 1).toNatClampNeg)) (LJ_room hJ hk) (fun r1 x1 q1 H1 locs1 hI hu1 hk1 hH1 hp1 hS => ?_)
  refine lv_istore (lv' := (5, .int r1) :: [(4, .int i), (3, .ref o0), (2, .ref m0), (1, .ref x0), (0, .ref b)]) hx hb dlw_277 hl (by decide) rfl (fun ls hl => ?_)
  refine lv_aload_n hx hb dlw_279 rfl (lv_at hl 3 rfl) ?_
  refine lv_aload_n hx hb dlw_280 rfl (lv_at hl 5 rfl) ?_
  refine lv_iload hx hb dlw_281 (lv_at hl 1 rfl) ?_
  refine lv_iconst (v := 1) hx hb dlw_283 (by decide +kernel) ?_
  refine lv_iadd hx hb dlw_284 ?_
  refine va_sld hx hb hX hbl hbA hS (i := i + 1) v1 dlw_285 ?_
  refine LI_M C hI hS hl.1 (restv := []) (d1 := 900) (F := fun _ w1 => rdM C9 wr w w1) [vi (xs (i + 1).toNatClampNeg)] [.int (xs (i + 1).toNatClampNeg)] (fun _ => rfl) dlw_286 wcm_122 rfl rfl (Nat.le_of_ble_eq_true rfl) (by decide) (by omega) (sr_fault2 (D := 899) hm (xs (i + 1).toNatClampNeg) (fun _ _ h => h)) ⟨(LJ_room hJ hk q1 hu1 hk1).1, (LJ_room hJ hk q1 hu1 hk1).2⟩ (fun r2 w1 H1 locs1 hI hpm hS => ?_)
  refine lv_istore (lv' := (6, .int r2) :: (5, .int r1) :: [(4, .int i), (3, .ref o0), (2, .ref m0), (1, .ref x0), (0, .ref b)]) hx hb dlw_289 hl (by decide) rfl (fun ls hl => ?_)
  refine lv_goto (tgt := 1187) hx hb dlw_291 (by decide) ?_
  exact kk x1 q1 w1 H1 locs1 ls hI (LJ_next hJ hu1 hk1 hH1 hpm.1.1 (JQ_rd hj hH1 hp1 hpm)) hS (lv_tl (lv_tl hl))
set_option maxRecDepth 100000 in
set_option maxHeartbeats 4000000 in
theorem lc_4 {p : Program} {e : Env} {s : State} {m : MethodId} {args : Array Value} {below : List Frame} {meth : Method} {c : Code} {H : Heap} {locs : List Loc} {Q : State → Prop} {ls : Array Slot} {A : Nat → Prop} {G : kG} {x w : gd} {q : kP} {x0 m0 o0 b L k : Nat} {xs : Nat → Int32} {i : Int32} (C : gC (wE (kE G)) 1000 yLaw p room_1 s m args meth c A) (hX : va_X b L xs s s.heap) (hbl : b < s.heap.size) (hbA : ¬ A b) (hI : LI G A H x q w x0 m0 o0) (hJ : LJ k x q w) (hk : k < 64) (hS : va_S A s.heap H locs) (v1 : vp_in (i + 1) L) (v2 : vp_in (i + 2) L) (v3 : vp_in (i + 3) L) (hl : lv_has ls 7 [(4, .int i), (3, .ref o0), (2, .ref m0), (1, .ref x0), (0, .ref b)]) (kk : ∀ (x1 : gd) (q1 : kP) (w1 : gd) (H1 : Heap) (locs1 : List Loc) (ls1 : Array Slot), LI G A H1 x1 q1 w1 x0 m0 o0 → LJ (k + 1) x1 q1 w1 → va_S A s.heap H1 locs1 → lv_has ls1 7 [(4, .int i), (3, .ref o0), (2, .ref m0), (1, .ref x0), (0, .ref b)] → W p G.1 e room_1 s m args below meth c H1 locs1 (q1.ce + 200) (q1.sl + 960000) Q (F0 m 1187 ls1 [])) : W p G.1 e room_1 s m args below meth c H locs (q.ce + 200) (q.sl + 960000) Q (F0 m 294 ls []) := by
  have hx := C.1.1
  have hb : c.code = cL_law := C.1.2.1
  obtain ⟨hu, hH, hm, el, b1, b2⟩ := id hJ
  obtain ⟨C9, wr, n9, lm, hj⟩ := el
  have el := JH_J hj
  refine lv_aload_n hx hb dlw_294 rfl (lv_at hl 3 rfl) ?_
  refine lv_aload_n hx hb dlw_295 rfl (lv_at hl 4 rfl) ?_
  refine lv_iload hx hb dlw_296 (lv_at hl 0 rfl) ?_
  refine lv_iconst (v := 1) hx hb dlw_298 (by decide +kernel) ?_
  refine lv_iadd hx hb dlw_299 ?_
  refine va_sld hx hb hX hbl hbA hS (i := i + 1) v1 dlw_300 ?_
  refine lv_aload_n hx hb dlw_301 rfl (lv_at hl 1 rfl) ?_
  refine LI_S C hI hu hS hl.1 [vi (xs (i + 1).toNatClampNeg)] [.int (xs (i + 1).toNatClampNeg)] (fun _ => rfl) dlw_302 wcs_123 rfl (by intro h; cases h) (Nat.le_of_ble_eq_true rfl) (kw_count (d := 870) hu hH (xs (i + 1).toNatClampNeg)) (LJ_room hJ hk) (fun r1 x1 q1 H1 locs1 hI hu1 hk1 hH1 hp1 hS => ?_)
  refine lv_istore (lv' := (5, .int r1) :: [(4, .int i), (3, .ref o0), (2, .ref m0), (1, .ref x0), (0, .ref b)]) hx hb dlw_305 hl (by decide) rfl (fun ls hl => ?_)
  refine lv_aload_n hx hb dlw_307 rfl (lv_at hl 3 rfl) ?_
  refine lv_aload_n hx hb dlw_308 rfl (lv_at hl 5 rfl) ?_
  refine lv_iload hx hb dlw_309 (lv_at hl 1 rfl) ?_
  refine lv_iconst (v := 1) hx hb dlw_311 (by decide +kernel) ?_
  refine lv_iadd hx hb dlw_312 ?_
  refine va_sld hx hb hX hbl hbA hS (i := i + 1) v1 dlw_313 ?_
  refine LI_M C hI hS hl.1 (restv := []) (d1 := 900) (F := fun _ w1 => rdM C9 wr w w1) [vi (xs (i + 1).toNatClampNeg)] [.int (xs (i + 1).toNatClampNeg)] (fun _ => rfl) dlw_314 wcm_125 rfl rfl (Nat.le_of_ble_eq_true rfl) (by decide) (by omega) (sr_count (D := 899) hm (xs (i + 1).toNatClampNeg) (fun _ _ h _ => h)) ⟨(LJ_room hJ hk q1 hu1 hk1).1, (LJ_room hJ hk q1 hu1 hk1).2⟩ (fun r2 w1 H1 locs1 hI hpm hS => ?_)
  refine lv_istore (lv' := (6, .int r2) :: (5, .int r1) :: [(4, .int i), (3, .ref o0), (2, .ref m0), (1, .ref x0), (0, .ref b)]) hx hb dlw_317 hl (by decide) rfl (fun ls hl => ?_)
  refine lv_goto (tgt := 1187) hx hb dlw_319 (by decide) ?_
  exact kk x1 q1 w1 H1 locs1 ls hI (LJ_next hJ hu1 hk1 hH1 hpm.1.1 (JQ_rd hj hH1 hp1 hpm)) hS (lv_tl (lv_tl hl))
set_option maxRecDepth 100000 in
set_option maxHeartbeats 4000000 in
theorem lc_5 {p : Program} {e : Env} {s : State} {m : MethodId} {args : Array Value} {below : List Frame} {meth : Method} {c : Code} {H : Heap} {locs : List Loc} {Q : State → Prop} {ls : Array Slot} {A : Nat → Prop} {G : kG} {x w : gd} {q : kP} {x0 m0 o0 b L k : Nat} {xs : Nat → Int32} {i : Int32} (C : gC (wE (kE G)) 1000 yLaw p room_1 s m args meth c A) (hX : va_X b L xs s s.heap) (hbl : b < s.heap.size) (hbA : ¬ A b) (hI : LI G A H x q w x0 m0 o0) (hJ : LJ k x q w) (hk : k < 64) (hS : va_S A s.heap H locs) (v1 : vp_in (i + 1) L) (v2 : vp_in (i + 2) L) (v3 : vp_in (i + 3) L) (hl : lv_has ls 7 [(4, .int i), (3, .ref o0), (2, .ref m0), (1, .ref x0), (0, .ref b)]) (kk : ∀ (x1 : gd) (q1 : kP) (w1 : gd) (H1 : Heap) (locs1 : List Loc) (ls1 : Array Slot), LI G A H1 x1 q1 w1 x0 m0 o0 → LJ (k + 1) x1 q1 w1 → va_S A s.heap H1 locs1 → lv_has ls1 7 [(4, .int i), (3, .ref o0), (2, .ref m0), (1, .ref x0), (0, .ref b)] → W p G.1 e room_1 s m args below meth c H1 locs1 (q1.ce + 200) (q1.sl + 960000) Q (F0 m 1187 ls1 [])) : W p G.1 e room_1 s m args below meth c H locs (q.ce + 200) (q.sl + 960000) Q (F0 m 322 ls []) := by
  have hx := C.1.1
  have hb : c.code = cL_law := C.1.2.1
  obtain ⟨hu, hH, hm, el, b1, b2⟩ := id hJ
  obtain ⟨C9, wr, n9, lm, hj⟩ := el
  have el := JH_J hj
  refine lv_aload_n hx hb dlw_322 rfl (lv_at hl 3 rfl) ?_
  refine lv_aload_n hx hb dlw_323 rfl (lv_at hl 4 rfl) ?_
  refine lv_iload hx hb dlw_324 (lv_at hl 0 rfl) ?_
  refine lv_iconst (v := 1) hx hb dlw_326 (by decide +kernel) ?_
  refine lv_iadd hx hb dlw_327 ?_
  refine va_sld hx hb hX hbl hbA hS (i := i + 1) v1 dlw_328 ?_
  refine lv_aload_n hx hb dlw_329 rfl (lv_at hl 1 rfl) ?_
  refine LI_S C hI hu hS hl.1 [vi (xs (i + 1).toNatClampNeg)] [.int (xs (i + 1).toNatClampNeg)] (fun _ => rfl) dlw_330 wcs_126 rfl (by intro h; cases h) (Nat.le_of_ble_eq_true rfl) (kw_begin (d := 870) hj hu hH (xs (i + 1).toNatClampNeg)) (LJ_room hJ hk) (fun r1 x1 q1 H1 locs1 hI hu1 hk1 hH1 hp1 hS => ?_)
  refine lv_istore (lv' := (5, .int r1) :: [(4, .int i), (3, .ref o0), (2, .ref m0), (1, .ref x0), (0, .ref b)]) hx hb dlw_333 hl (by decide) rfl (fun ls hl => ?_)
  refine lv_aload_n hx hb dlw_335 rfl (lv_at hl 3 rfl) ?_
  refine lv_aload_n hx hb dlw_336 rfl (lv_at hl 5 rfl) ?_
  refine lv_iload hx hb dlw_337 (lv_at hl 1 rfl) ?_
  refine lv_iconst (v := 1) hx hb dlw_339 (by decide +kernel) ?_
  refine lv_iadd hx hb dlw_340 ?_
  refine va_sld hx hb hX hbl hbA hS (i := i + 1) v1 dlw_341 ?_
  refine LI_M C hI hS hl.1 (restv := []) (d1 := 900) (F := fun r9 w1 => ansM C9 wr (f1Bg w) (f2Bg w (xs (i + 1).toNatClampNeg)) (tBg C9 w (xs (i + 1).toNatClampNeg)) w r9 w1) [vi (xs (i + 1).toNatClampNeg)] [.int (xs (i + 1).toNatClampNeg)] (fun _ => rfl) dlw_342 wcm_128 rfl rfl (Nat.le_of_ble_eq_true rfl) (by decide) (by omega) (ma_begin hj hH hm (xs (i + 1).toNatClampNeg) (by omega) (fun _ _ h1 => h1)) ⟨(LJ_room hJ hk q1 hu1 hk1).1, (LJ_room hJ hk q1 hu1 hk1).2⟩ (fun r2 w1 H1 locs1 hI hpm hS => ?_)
  have hj2 := ja_begin hj hH1 hp1 hpm
  refine lv_istore (lv' := (6, .int r2) :: (5, .int r1) :: [(4, .int i), (3, .ref o0), (2, .ref m0), (1, .ref x0), (0, .ref b)]) hx hb dlw_345 hl (by decide) rfl (fun ls hl => ?_)
  refine lv_goto (tgt := 1187) hx hb dlw_347 (by decide) ?_
  exact kk x1 q1 w1 H1 locs1 ls hI (LJ_next hJ hu1 hk1 hH1 hpm.1 hj2.1) hS (lv_tl (lv_tl hl))
set_option maxRecDepth 100000 in
set_option maxHeartbeats 4000000 in
theorem lc_6 {p : Program} {e : Env} {s : State} {m : MethodId} {args : Array Value} {below : List Frame} {meth : Method} {c : Code} {H : Heap} {locs : List Loc} {Q : State → Prop} {ls : Array Slot} {A : Nat → Prop} {G : kG} {x w : gd} {q : kP} {x0 m0 o0 b L k : Nat} {xs : Nat → Int32} {i : Int32} (C : gC (wE (kE G)) 1000 yLaw p room_1 s m args meth c A) (hX : va_X b L xs s s.heap) (hbl : b < s.heap.size) (hbA : ¬ A b) (hI : LI G A H x q w x0 m0 o0) (hJ : LJ k x q w) (hk : k < 64) (hS : va_S A s.heap H locs) (v1 : vp_in (i + 1) L) (v2 : vp_in (i + 2) L) (v3 : vp_in (i + 3) L) (hl : lv_has ls 7 [(4, .int i), (3, .ref o0), (2, .ref m0), (1, .ref x0), (0, .ref b)]) (kk : ∀ (x1 : gd) (q1 : kP) (w1 : gd) (H1 : Heap) (locs1 : List Loc) (ls1 : Array Slot), LI G A H1 x1 q1 w1 x0 m0 o0 → LJ (k + 1) x1 q1 w1 → va_S A s.heap H1 locs1 → lv_has ls1 7 [(4, .int i), (3, .ref o0), (2, .ref m0), (1, .ref x0), (0, .ref b)] → W p G.1 e room_1 s m args below meth c H1 locs1 (q1.ce + 200) (q1.sl + 960000) Q (F0 m 1187 ls1 [])) : W p G.1 e room_1 s m args below meth c H locs (q.ce + 200) (q.sl + 960000) Q (F0 m 350 ls []) := by
  have hx := C.1.1
  have hb : c.code = cL_law := C.1.2.1
  obtain ⟨hu, hH, hm, el, b1, b2⟩ := id hJ
  obtain ⟨C9, wr, n9, lm, hj⟩ := el
  have el := JH_J hj
  refine lv_aload_n hx hb dlw_350 rfl (lv_at hl 3 rfl) ?_
  refine lv_aload_n hx hb dlw_351 rfl (lv_at hl 1 rfl) ?_
  refine LI_S C hI hu hS hl.1 [] [] (fun _ => rfl) dlw_352 wcs_129 rfl (by intro h; cases h) (Nat.le_of_ble_eq_true rfl) (kw_choices (d := 870) hu hH ) (LJ_room hJ hk) (fun r1 x1 q1 H1 locs1 hI hu1 hk1 hH1 hp1 hS => ?_)
  refine lv_istore (lv' := (5, .int r1) :: [(4, .int i), (3, .ref o0), (2, .ref m0), (1, .ref x0), (0, .ref b)]) hx hb dlw_355 hl (by decide) rfl (fun ls hl => ?_)
  refine lv_aload_n hx hb dlw_357 rfl (lv_at hl 3 rfl) ?_
  refine LI_M C hI hS hl.1 (restv := []) (d1 := 900) (F := fun r9 w1 => ansM C9 wr (f1Ch w) (False) (tCh C9 wr w) w r9 w1) [] [] (fun _ => rfl) dlw_358 wcm_132 rfl rfl (Nat.le_of_ble_eq_true rfl) (by decide) (by omega) (ma_choices hm  (by omega) (fun _ _ h1 => h1)) ⟨(LJ_room hJ hk q1 hu1 hk1).1, (LJ_room hJ hk q1 hu1 hk1).2⟩ (fun r2 w1 H1 locs1 hI hpm hS => ?_)
  have hj2 := ja_choices hj hH1 hp1 hpm
  refine lv_istore (lv' := (6, .int r2) :: (5, .int r1) :: [(4, .int i), (3, .ref o0), (2, .ref m0), (1, .ref x0), (0, .ref b)]) hx hb dlw_361 hl (by decide) rfl (fun ls hl => ?_)
  refine lv_goto (tgt := 1187) hx hb dlw_363 (by decide) ?_
  exact kk x1 q1 w1 H1 locs1 ls hI (LJ_next hJ hu1 hk1 hH1 hpm.1 hj2.1) hS (lv_tl (lv_tl hl))
set_option maxRecDepth 100000 in
set_option maxHeartbeats 4000000 in
theorem lc_7 {p : Program} {e : Env} {s : State} {m : MethodId} {args : Array Value} {below : List Frame} {meth : Method} {c : Code} {H : Heap} {locs : List Loc} {Q : State → Prop} {ls : Array Slot} {A : Nat → Prop} {G : kG} {x w : gd} {q : kP} {x0 m0 o0 b L k : Nat} {xs : Nat → Int32} {i : Int32} (C : gC (wE (kE G)) 1000 yLaw p room_1 s m args meth c A) (hX : va_X b L xs s s.heap) (hbl : b < s.heap.size) (hbA : ¬ A b) (hI : LI G A H x q w x0 m0 o0) (hJ : LJ k x q w) (hk : k < 64) (hS : va_S A s.heap H locs) (v1 : vp_in (i + 1) L) (v2 : vp_in (i + 2) L) (v3 : vp_in (i + 3) L) (hl : lv_has ls 7 [(4, .int i), (3, .ref o0), (2, .ref m0), (1, .ref x0), (0, .ref b)]) (kk : ∀ (x1 : gd) (q1 : kP) (w1 : gd) (H1 : Heap) (locs1 : List Loc) (ls1 : Array Slot), LI G A H1 x1 q1 w1 x0 m0 o0 → LJ (k + 1) x1 q1 w1 → va_S A s.heap H1 locs1 → lv_has ls1 7 [(4, .int i), (3, .ref o0), (2, .ref m0), (1, .ref x0), (0, .ref b)] → W p G.1 e room_1 s m args below meth c H1 locs1 (q1.ce + 200) (q1.sl + 960000) Q (F0 m 1187 ls1 [])) : W p G.1 e room_1 s m args below meth c H locs (q.ce + 200) (q.sl + 960000) Q (F0 m 366 ls []) := by
  have hx := C.1.1
  have hb : c.code = cL_law := C.1.2.1
  obtain ⟨hu, hH, hm, el, b1, b2⟩ := id hJ
  obtain ⟨C9, wr, n9, lm, hj⟩ := el
  have el := JH_J hj
  refine lv_aload_n hx hb dlw_366 rfl (lv_at hl 3 rfl) ?_
  refine lv_aload_n hx hb dlw_367 rfl (lv_at hl 4 rfl) ?_
  refine lv_iload hx hb dlw_368 (lv_at hl 0 rfl) ?_
  refine lv_iconst (v := 1) hx hb dlw_370 (by decide +kernel) ?_
  refine lv_iadd hx hb dlw_371 ?_
  refine va_sld hx hb hX hbl hbA hS (i := i + 1) v1 dlw_372 ?_
  refine lv_aload_n hx hb dlw_373 rfl (lv_at hl 4 rfl) ?_
  refine lv_iload hx hb dlw_374 (lv_at hl 0 rfl) ?_
  refine lv_iconst (v := 2) hx hb dlw_376 (by decide +kernel) ?_
  refine lv_iadd hx hb dlw_377 ?_
  refine va_sld hx hb hX hbl hbA hS (i := i + 2) v2 dlw_378 ?_
  refine lv_aload_n hx hb dlw_379 rfl (lv_at hl 1 rfl) ?_
  refine LI_S C hI hu hS hl.1 [vi (xs (i + 1).toNatClampNeg), vi (xs (i + 2).toNatClampNeg)] [.int (xs (i + 1).toNatClampNeg), .int (xs (i + 2).toNatClampNeg)] (fun _ => rfl) dlw_380 wcs_133 rfl (by intro h; cases h) (Nat.le_of_ble_eq_true rfl) (kw_choice (d := 870) hj hu hH (xs (i + 1).toNatClampNeg) (xs (i + 2).toNatClampNeg)) (LJ_room hJ hk) (fun r1 x1 q1 H1 locs1 hI hu1 hk1 hH1 hp1 hS => ?_)
  refine lv_istore (lv' := (5, .int r1) :: [(4, .int i), (3, .ref o0), (2, .ref m0), (1, .ref x0), (0, .ref b)]) hx hb dlw_383 hl (by decide) rfl (fun ls hl => ?_)
  refine lv_aload_n hx hb dlw_385 rfl (lv_at hl 3 rfl) ?_
  refine lv_aload_n hx hb dlw_386 rfl (lv_at hl 5 rfl) ?_
  refine lv_iload hx hb dlw_387 (lv_at hl 1 rfl) ?_
  refine lv_iconst (v := 1) hx hb dlw_389 (by decide +kernel) ?_
  refine lv_iadd hx hb dlw_390 ?_
  refine va_sld hx hb hX hbl hbA hS (i := i + 1) v1 dlw_391 ?_
  refine lv_aload_n hx hb dlw_392 rfl (lv_at hl 5 rfl) ?_
  refine lv_iload hx hb dlw_393 (lv_at hl 1 rfl) ?_
  refine lv_iconst (v := 2) hx hb dlw_395 (by decide +kernel) ?_
  refine lv_iadd hx hb dlw_396 ?_
  refine va_sld hx hb hX hbl hbA hS (i := i + 2) v2 dlw_397 ?_
  refine LI_M C hI hS hl.1 (restv := []) (d1 := 900) (F := fun r9 w1 => ansM C9 wr (f1Ch w) (f2Ci w (xs (i + 1).toNatClampNeg) (xs (i + 2).toNatClampNeg)) (tCi C9 wr n9 w (xs (i + 1).toNatClampNeg) (xs (i + 2).toNatClampNeg)) w r9 w1) [vi (xs (i + 1).toNatClampNeg), vi (xs (i + 2).toNatClampNeg)] [.int (xs (i + 1).toNatClampNeg), .int (xs (i + 2).toNatClampNeg)] (fun _ => rfl) dlw_398 wcm_136 rfl rfl (Nat.le_of_ble_eq_true rfl) (by decide) (by omega) (ma_choice hj hH hm (xs (i + 1).toNatClampNeg) (xs (i + 2).toNatClampNeg) (by omega) (fun _ _ h1 => h1)) ⟨(LJ_room hJ hk q1 hu1 hk1).1, (LJ_room hJ hk q1 hu1 hk1).2⟩ (fun r2 w1 H1 locs1 hI hpm hS => ?_)
  have hj2 := ja_choice hj hH1 hp1 hpm
  refine lv_istore (lv' := (6, .int r2) :: (5, .int r1) :: [(4, .int i), (3, .ref o0), (2, .ref m0), (1, .ref x0), (0, .ref b)]) hx hb dlw_401 hl (by decide) rfl (fun ls hl => ?_)
  refine lv_goto (tgt := 1187) hx hb dlw_403 (by decide) ?_
  exact kk x1 q1 w1 H1 locs1 ls hI (LJ_next hJ hu1 hk1 hH1 hpm.1 hj2.1) hS (lv_tl (lv_tl hl))
set_option maxRecDepth 100000 in
set_option maxHeartbeats 4000000 in
theorem lc_8 {p : Program} {e : Env} {s : State} {m : MethodId} {args : Array Value} {below : List Frame} {meth : Method} {c : Code} {H : Heap} {locs : List Loc} {Q : State → Prop} {ls : Array Slot} {A : Nat → Prop} {G : kG} {x w : gd} {q : kP} {x0 m0 o0 b L k : Nat} {xs : Nat → Int32} {i : Int32} (C : gC (wE (kE G)) 1000 yLaw p room_1 s m args meth c A) (hX : va_X b L xs s s.heap) (hbl : b < s.heap.size) (hbA : ¬ A b) (hI : LI G A H x q w x0 m0 o0) (hJ : LJ k x q w) (hk : k < 64) (hS : va_S A s.heap H locs) (v1 : vp_in (i + 1) L) (v2 : vp_in (i + 2) L) (v3 : vp_in (i + 3) L) (hl : lv_has ls 7 [(4, .int i), (3, .ref o0), (2, .ref m0), (1, .ref x0), (0, .ref b)]) (kk : ∀ (x1 : gd) (q1 : kP) (w1 : gd) (H1 : Heap) (locs1 : List Loc) (ls1 : Array Slot), LI G A H1 x1 q1 w1 x0 m0 o0 → LJ (k + 1) x1 q1 w1 → va_S A s.heap H1 locs1 → lv_has ls1 7 [(4, .int i), (3, .ref o0), (2, .ref m0), (1, .ref x0), (0, .ref b)] → W p G.1 e room_1 s m args below meth c H1 locs1 (q1.ce + 200) (q1.sl + 960000) Q (F0 m 1187 ls1 [])) : W p G.1 e room_1 s m args below meth c H locs (q.ce + 200) (q.sl + 960000) Q (F0 m 406 ls []) := by
  have hx := C.1.1
  have hb : c.code = cL_law := C.1.2.1
  obtain ⟨hu, hH, hm, el, b1, b2⟩ := id hJ
  obtain ⟨C9, wr, n9, lm, hj⟩ := el
  have el := JH_J hj
  refine lv_aload_n hx hb dlw_406 rfl (lv_at hl 3 rfl) ?_
  refine lv_aload_n hx hb dlw_407 rfl (lv_at hl 4 rfl) ?_
  refine lv_iload hx hb dlw_408 (lv_at hl 0 rfl) ?_
  refine lv_iconst (v := 1) hx hb dlw_410 (by decide +kernel) ?_
  refine lv_iadd hx hb dlw_411 ?_
  refine va_sld hx hb hX hbl hbA hS (i := i + 1) v1 dlw_412 ?_
  refine lv_aload_n hx hb dlw_413 rfl (lv_at hl 1 rfl) ?_
  refine LI_S C hI hu hS hl.1 [vi (xs (i + 1).toNatClampNeg)] [.int (xs (i + 1).toNatClampNeg)] (fun _ => rfl) dlw_414 wcs_137 rfl (by intro h; cases h) (Nat.le_of_ble_eq_true rfl) (kw_go (d := 870) hj hu hH (xs (i + 1).toNatClampNeg)) (LJ_room hJ hk) (fun r1 x1 q1 H1 locs1 hI hu1 hk1 hH1 hp1 hS => ?_)
  refine lv_istore (lv' := (5, .int r1) :: [(4, .int i), (3, .ref o0), (2, .ref m0), (1, .ref x0), (0, .ref b)]) hx hb dlw_417 hl (by decide) rfl (fun ls hl => ?_)
  refine lv_aload_n hx hb dlw_419 rfl (lv_at hl 3 rfl) ?_
  refine lv_aload_n hx hb dlw_420 rfl (lv_at hl 5 rfl) ?_
  refine lv_iload hx hb dlw_421 (lv_at hl 1 rfl) ?_
  refine lv_iconst (v := 1) hx hb dlw_423 (by decide +kernel) ?_
  refine lv_iadd hx hb dlw_424 ?_
  refine va_sld hx hb hX hbl hbA hS (i := i + 1) v1 dlw_425 ?_
  refine LI_M C hI hS hl.1 (restv := []) (d1 := 900) (F := fun r9 w1 => ansM C9 wr (f1Go w) (f2Go w (xs (i + 1).toNatClampNeg)) (tGo C9 wr n9 w (xs (i + 1).toNatClampNeg)) w r9 w1) [vi (xs (i + 1).toNatClampNeg)] [.int (xs (i + 1).toNatClampNeg)] (fun _ => rfl) dlw_426 wcm_139 rfl rfl (Nat.le_of_ble_eq_true rfl) (by decide) (by omega) (ma_go hj hH hm (xs (i + 1).toNatClampNeg) (by omega) (fun _ _ h1 => h1)) ⟨(LJ_room hJ hk q1 hu1 hk1).1, (LJ_room hJ hk q1 hu1 hk1).2⟩ (fun r2 w1 H1 locs1 hI hpm hS => ?_)
  have hj2 := ja_go hj hH1 hp1 hpm
  refine lv_istore (lv' := (6, .int r2) :: (5, .int r1) :: [(4, .int i), (3, .ref o0), (2, .ref m0), (1, .ref x0), (0, .ref b)]) hx hb dlw_429 hl (by decide) rfl (fun ls hl => ?_)
  refine lv_goto (tgt := 1187) hx hb dlw_431 (by decide) ?_
  exact kk x1 q1 w1 H1 locs1 ls hI (LJ_next hJ hu1 hk1 hH1 hpm.1 hj2.1) hS (lv_tl (lv_tl hl))
set_option maxRecDepth 100000 in
set_option maxHeartbeats 4000000 in
theorem lc_9 {p : Program} {e : Env} {s : State} {m : MethodId} {args : Array Value} {below : List Frame} {meth : Method} {c : Code} {H : Heap} {locs : List Loc} {Q : State → Prop} {ls : Array Slot} {A : Nat → Prop} {G : kG} {x w : gd} {q : kP} {x0 m0 o0 b L k : Nat} {xs : Nat → Int32} {i : Int32} (C : gC (wE (kE G)) 1000 yLaw p room_1 s m args meth c A) (hX : va_X b L xs s s.heap) (hbl : b < s.heap.size) (hbA : ¬ A b) (hI : LI G A H x q w x0 m0 o0) (hJ : LJ k x q w) (hk : k < 64) (hS : va_S A s.heap H locs) (v1 : vp_in (i + 1) L) (v2 : vp_in (i + 2) L) (v3 : vp_in (i + 3) L) (hl : lv_has ls 7 [(4, .int i), (3, .ref o0), (2, .ref m0), (1, .ref x0), (0, .ref b)]) (kk : ∀ (x1 : gd) (q1 : kP) (w1 : gd) (H1 : Heap) (locs1 : List Loc) (ls1 : Array Slot), LI G A H1 x1 q1 w1 x0 m0 o0 → LJ (k + 1) x1 q1 w1 → va_S A s.heap H1 locs1 → lv_has ls1 7 [(4, .int i), (3, .ref o0), (2, .ref m0), (1, .ref x0), (0, .ref b)] → W p G.1 e room_1 s m args below meth c H1 locs1 (q1.ce + 200) (q1.sl + 960000) Q (F0 m 1187 ls1 [])) : W p G.1 e room_1 s m args below meth c H locs (q.ce + 200) (q.sl + 960000) Q (F0 m 434 ls []) := by
  have hx := C.1.1
  have hb : c.code = cL_law := C.1.2.1
  obtain ⟨hu, hH, hm, el, b1, b2⟩ := id hJ
  obtain ⟨C9, wr, n9, lm, hj⟩ := el
  have el := JH_J hj
  refine lv_aload_n hx hb dlw_434 rfl (lv_at hl 3 rfl) ?_
  refine lv_aload_n hx hb dlw_435 rfl (lv_at hl 4 rfl) ?_
  refine lv_iload hx hb dlw_436 (lv_at hl 0 rfl) ?_
  refine lv_iconst (v := 1) hx hb dlw_438 (by decide +kernel) ?_
  refine lv_iadd hx hb dlw_439 ?_
  refine va_sld hx hb hX hbl hbA hS (i := i + 1) v1 dlw_440 ?_
  refine lv_aload_n hx hb dlw_441 rfl (lv_at hl 4 rfl) ?_
  refine lv_iload hx hb dlw_442 (lv_at hl 0 rfl) ?_
  refine lv_iconst (v := 2) hx hb dlw_444 (by decide +kernel) ?_
  refine lv_iadd hx hb dlw_445 ?_
  refine va_sld hx hb hX hbl hbA hS (i := i + 2) v2 dlw_446 ?_
  refine lv_aload_n hx hb dlw_447 rfl (lv_at hl 1 rfl) ?_
  refine LI_S C hI hu hS hl.1 [vi (xs (i + 1).toNatClampNeg), vi (xs (i + 2).toNatClampNeg)] [.int (xs (i + 1).toNatClampNeg), .int (xs (i + 2).toNatClampNeg)] (fun _ => rfl) dlw_448 wcs_140 rfl (by intro h; cases h) (Nat.le_of_ble_eq_true rfl) (kw_draw (d := 870) hj hu hH (xs (i + 1).toNatClampNeg) (xs (i + 2).toNatClampNeg)) (LJ_room hJ hk) (fun r1 x1 q1 H1 locs1 hI hu1 hk1 hH1 hp1 hS => ?_)
  refine lv_istore (lv' := (5, .int r1) :: [(4, .int i), (3, .ref o0), (2, .ref m0), (1, .ref x0), (0, .ref b)]) hx hb dlw_451 hl (by decide) rfl (fun ls hl => ?_)
  refine lv_aload_n hx hb dlw_453 rfl (lv_at hl 3 rfl) ?_
  refine lv_aload_n hx hb dlw_454 rfl (lv_at hl 5 rfl) ?_
  refine lv_iload hx hb dlw_455 (lv_at hl 1 rfl) ?_
  refine lv_iconst (v := 1) hx hb dlw_457 (by decide +kernel) ?_
  refine lv_iadd hx hb dlw_458 ?_
  refine va_sld hx hb hX hbl hbA hS (i := i + 1) v1 dlw_459 ?_
  refine lv_aload_n hx hb dlw_460 rfl (lv_at hl 5 rfl) ?_
  refine lv_iload hx hb dlw_461 (lv_at hl 1 rfl) ?_
  refine lv_iconst (v := 2) hx hb dlw_463 (by decide +kernel) ?_
  refine lv_iadd hx hb dlw_464 ?_
  refine va_sld hx hb hX hbl hbA hS (i := i + 2) v2 dlw_465 ?_
  refine LI_M C hI hS hl.1 (restv := []) (d1 := 900) (F := fun r9 w1 => ansM C9 wr (f1Ch w) (f2Dr w (xs (i + 2).toNatClampNeg)) (tDr C9 wr n9 w (xs (i + 1).toNatClampNeg) (xs (i + 2).toNatClampNeg)) w r9 w1) [vi (xs (i + 1).toNatClampNeg), vi (xs (i + 2).toNatClampNeg)] [.int (xs (i + 1).toNatClampNeg), .int (xs (i + 2).toNatClampNeg)] (fun _ => rfl) dlw_466 wcm_142 rfl rfl (Nat.le_of_ble_eq_true rfl) (by decide) (by omega) (ma_draw hj hH hm (xs (i + 1).toNatClampNeg) (xs (i + 2).toNatClampNeg) (by omega) (fun _ _ h1 => h1)) ⟨(LJ_room hJ hk q1 hu1 hk1).1, (LJ_room hJ hk q1 hu1 hk1).2⟩ (fun r2 w1 H1 locs1 hI hpm hS => ?_)
  have hj2 := ja_draw hj hH1 hp1 hpm
  refine lv_istore (lv' := (6, .int r2) :: (5, .int r1) :: [(4, .int i), (3, .ref o0), (2, .ref m0), (1, .ref x0), (0, .ref b)]) hx hb dlw_469 hl (by decide) rfl (fun ls hl => ?_)
  refine lv_goto (tgt := 1187) hx hb dlw_471 (by decide) ?_
  exact kk x1 q1 w1 H1 locs1 ls hI (LJ_next hJ hu1 hk1 hH1 hpm.1 hj2.1) hS (lv_tl (lv_tl hl))
end
section
set_option maxRecDepth 100000 in
set_option maxHeartbeats 4000000 in
theorem lc_10 {p : Program} {e : Env} {s : State} {m : MethodId} {args : Array Value} {below : List Frame} {meth : Method} {c : Code} {H : Heap} {locs : List Loc} {Q : State → Prop} {ls : Array Slot} {A : Nat → Prop} {G : kG} {x w : gd} {q : kP} {x0 m0 o0 b L k : Nat} {xs : Nat → Int32} {i : Int32} (C : gC (wE (kE G)) 1000 yLaw p room_1 s m args meth c A) (hX : va_X b L xs s s.heap) (hbl : b < s.heap.size) (hbA : ¬ A b) (hI : LI G A H x q w x0 m0 o0) (hJ : LJ k x q w) (hk : k < 64) (hS : va_S A s.heap H locs) (v1 : vp_in (i + 1) L) (v2 : vp_in (i + 2) L) (v3 : vp_in (i + 3) L) (hl : lv_has ls 7 [(4, .int i), (3, .ref o0), (2, .ref m0), (1, .ref x0), (0, .ref b)]) (kk : ∀ (x1 : gd) (q1 : kP) (w1 : gd) (H1 : Heap) (locs1 : List Loc) (ls1 : Array Slot), LI G A H1 x1 q1 w1 x0 m0 o0 → LJ (k + 1) x1 q1 w1 → va_S A s.heap H1 locs1 → lv_has ls1 7 [(4, .int i), (3, .ref o0), (2, .ref m0), (1, .ref x0), (0, .ref b)] → W p G.1 e room_1 s m args below meth c H1 locs1 (q1.ce + 200) (q1.sl + 960000) Q (F0 m 1187 ls1 [])) : W p G.1 e room_1 s m args below meth c H locs (q.ce + 200) (q.sl + 960000) Q (F0 m 474 ls []) := by
  have hx := C.1.1
  have hb : c.code = cL_law := C.1.2.1
  obtain ⟨hu, hH, hm, el, b1, b2⟩ := id hJ
  obtain ⟨C9, wr, n9, lm, hj⟩ := el
  have el := JH_J hj
  refine lv_aload_n hx hb dlw_474 rfl (lv_at hl 3 rfl) ?_
  refine lv_aload_n hx hb dlw_475 rfl (lv_at hl 4 rfl) ?_
  refine lv_iload hx hb dlw_476 (lv_at hl 0 rfl) ?_
  refine lv_iconst (v := 1) hx hb dlw_478 (by decide +kernel) ?_
  refine lv_iadd hx hb dlw_479 ?_
  refine va_sld hx hb hX hbl hbA hS (i := i + 1) v1 dlw_480 ?_
  refine lv_aload_n hx hb dlw_481 rfl (lv_at hl 1 rfl) ?_
  refine LI_S C hI hu hS hl.1 [vi (xs (i + 1).toNatClampNeg)] [.int (xs (i + 1).toNatClampNeg)] (fun _ => rfl) dlw_482 wcs_143 rfl (by intro h; cases h) (Nat.le_of_ble_eq_true rfl) (kw_again (d := 870) hj hu hH (xs (i + 1).toNatClampNeg)) (LJ_room hJ hk) (fun r1 x1 q1 H1 locs1 hI hu1 hk1 hH1 hp1 hS => ?_)
  refine lv_istore (lv' := (5, .int r1) :: [(4, .int i), (3, .ref o0), (2, .ref m0), (1, .ref x0), (0, .ref b)]) hx hb dlw_485 hl (by decide) rfl (fun ls hl => ?_)
  refine lv_aload_n hx hb dlw_487 rfl (lv_at hl 3 rfl) ?_
  refine lv_aload_n hx hb dlw_488 rfl (lv_at hl 5 rfl) ?_
  refine lv_iload hx hb dlw_489 (lv_at hl 1 rfl) ?_
  refine lv_iconst (v := 1) hx hb dlw_491 (by decide +kernel) ?_
  refine lv_iadd hx hb dlw_492 ?_
  refine va_sld hx hb hX hbl hbA hS (i := i + 1) v1 dlw_493 ?_
  refine LI_M C hI hS hl.1 (restv := []) (d1 := 900) (F := fun r9 w1 => ansM C9 wr (f1Ch w) (f2Ag w (xs (i + 1).toNatClampNeg)) (tAg C9 wr w (xs (i + 1).toNatClampNeg)) w r9 w1) [vi (xs (i + 1).toNatClampNeg)] [.int (xs (i + 1).toNatClampNeg)] (fun _ => rfl) dlw_494 wcm_145 rfl rfl (Nat.le_of_ble_eq_true rfl) (by decide) (by omega) (ma_again hj hm (xs (i + 1).toNatClampNeg) (by omega) (fun _ _ h1 => h1)) ⟨(LJ_room hJ hk q1 hu1 hk1).1, (LJ_room hJ hk q1 hu1 hk1).2⟩ (fun r2 w1 H1 locs1 hI hpm hS => ?_)
  have hj2 := ja_again hj hH1 hp1 hpm
  refine lv_istore (lv' := (6, .int r2) :: (5, .int r1) :: [(4, .int i), (3, .ref o0), (2, .ref m0), (1, .ref x0), (0, .ref b)]) hx hb dlw_497 hl (by decide) rfl (fun ls hl => ?_)
  refine lv_goto (tgt := 1187) hx hb dlw_499 (by decide) ?_
  exact kk x1 q1 w1 H1 locs1 ls hI (LJ_next hJ hu1 hk1 hH1 hpm.1 hj2.1) hS (lv_tl (lv_tl hl))
set_option maxRecDepth 100000 in
set_option maxHeartbeats 4000000 in
theorem lc_11 {p : Program} {e : Env} {s : State} {m : MethodId} {args : Array Value} {below : List Frame} {meth : Method} {c : Code} {H : Heap} {locs : List Loc} {Q : State → Prop} {ls : Array Slot} {A : Nat → Prop} {G : kG} {x w : gd} {q : kP} {x0 m0 o0 b L k : Nat} {xs : Nat → Int32} {i : Int32} (C : gC (wE (kE G)) 1000 yLaw p room_1 s m args meth c A) (hX : va_X b L xs s s.heap) (hbl : b < s.heap.size) (hbA : ¬ A b) (hI : LI G A H x q w x0 m0 o0) (hJ : LJ k x q w) (hk : k < 64) (hS : va_S A s.heap H locs) (v1 : vp_in (i + 1) L) (v2 : vp_in (i + 2) L) (v3 : vp_in (i + 3) L) (hl : lv_has ls 7 [(4, .int i), (3, .ref o0), (2, .ref m0), (1, .ref x0), (0, .ref b)]) (kk : ∀ (x1 : gd) (q1 : kP) (w1 : gd) (H1 : Heap) (locs1 : List Loc) (ls1 : Array Slot), LI G A H1 x1 q1 w1 x0 m0 o0 → LJ (k + 1) x1 q1 w1 → va_S A s.heap H1 locs1 → lv_has ls1 7 [(4, .int i), (3, .ref o0), (2, .ref m0), (1, .ref x0), (0, .ref b)] → W p G.1 e room_1 s m args below meth c H1 locs1 (q1.ce + 200) (q1.sl + 960000) Q (F0 m 1187 ls1 [])) : W p G.1 e room_1 s m args below meth c H locs (q.ce + 200) (q.sl + 960000) Q (F0 m 502 ls []) := by
  have hx := C.1.1
  have hb : c.code = cL_law := C.1.2.1
  obtain ⟨hu, hH, hm, el, b1, b2⟩ := id hJ
  obtain ⟨C9, wr, n9, lm, hj⟩ := el
  have el := JH_J hj
  refine lv_aload_n hx hb dlw_502 rfl (lv_at hl 3 rfl) ?_
  refine lv_aload_n hx hb dlw_503 rfl (lv_at hl 4 rfl) ?_
  refine lv_iload hx hb dlw_504 (lv_at hl 0 rfl) ?_
  refine lv_iconst (v := 1) hx hb dlw_506 (by decide +kernel) ?_
  refine lv_iadd hx hb dlw_507 ?_
  refine va_sld hx hb hX hbl hbA hS (i := i + 1) v1 dlw_508 ?_
  refine lv_aload_n hx hb dlw_509 rfl (lv_at hl 1 rfl) ?_
  refine LI_S C hI hu hS hl.1 [vi (xs (i + 1).toNatClampNeg)] [.int (xs (i + 1).toNatClampNeg)] (fun _ => rfl) dlw_510 wcs_146 rfl (by intro h; cases h) (Nat.le_of_ble_eq_true rfl) (kw_run (d := 870) hu hH (xs (i + 1).toNatClampNeg)) (LJ_room hJ hk) (fun r1 x1 q1 H1 locs1 hI hu1 hk1 hH1 hp1 hS => ?_)
  refine lv_istore (lv' := (5, .int r1) :: [(4, .int i), (3, .ref o0), (2, .ref m0), (1, .ref x0), (0, .ref b)]) hx hb dlw_513 hl (by decide) rfl (fun ls hl => ?_)
  refine lv_aload_n hx hb dlw_515 rfl (lv_at hl 3 rfl) ?_
  refine lv_aload_n hx hb dlw_516 rfl (lv_at hl 5 rfl) ?_
  refine lv_iload hx hb dlw_517 (lv_at hl 1 rfl) ?_
  refine lv_iconst (v := 1) hx hb dlw_519 (by decide +kernel) ?_
  refine lv_iadd hx hb dlw_520 ?_
  refine va_sld hx hb hX hbl hbA hS (i := i + 1) v1 dlw_521 ?_
  refine LI_M C hI hS hl.1 (restv := []) (d1 := 900) (F := fun _ w1 => rdM C9 wr w w1) [vi (xs (i + 1).toNatClampNeg)] [.int (xs (i + 1).toNatClampNeg)] (fun _ => rfl) dlw_522 wcm_148 rfl rfl (Nat.le_of_ble_eq_true rfl) (by decide) (by omega) (sr_run hm (xs (i + 1).toNatClampNeg) (by omega) (fun _ _ h => h)) ⟨(LJ_room hJ hk q1 hu1 hk1).1, (LJ_room hJ hk q1 hu1 hk1).2⟩ (fun r2 w1 H1 locs1 hI hpm hS => ?_)
  refine lv_istore (lv' := (6, .int r2) :: (5, .int r1) :: [(4, .int i), (3, .ref o0), (2, .ref m0), (1, .ref x0), (0, .ref b)]) hx hb dlw_525 hl (by decide) rfl (fun ls hl => ?_)
  refine lv_goto (tgt := 1187) hx hb dlw_527 (by decide) ?_
  exact kk x1 q1 w1 H1 locs1 ls hI (LJ_next hJ hu1 hk1 hH1 hpm.1.1 (JQ_rd hj hH1 hp1 hpm)) hS (lv_tl (lv_tl hl))
set_option maxRecDepth 100000 in
set_option maxHeartbeats 4000000 in
theorem lc_12 {p : Program} {e : Env} {s : State} {m : MethodId} {args : Array Value} {below : List Frame} {meth : Method} {c : Code} {H : Heap} {locs : List Loc} {Q : State → Prop} {ls : Array Slot} {A : Nat → Prop} {G : kG} {x w : gd} {q : kP} {x0 m0 o0 b L k : Nat} {xs : Nat → Int32} {i : Int32} (C : gC (wE (kE G)) 1000 yLaw p room_1 s m args meth c A) (hX : va_X b L xs s s.heap) (hbl : b < s.heap.size) (hbA : ¬ A b) (hI : LI G A H x q w x0 m0 o0) (hJ : LJ k x q w) (hk : k < 64) (hS : va_S A s.heap H locs) (v1 : vp_in (i + 1) L) (v2 : vp_in (i + 2) L) (v3 : vp_in (i + 3) L) (hl : lv_has ls 7 [(4, .int i), (3, .ref o0), (2, .ref m0), (1, .ref x0), (0, .ref b)]) (kk : ∀ (x1 : gd) (q1 : kP) (w1 : gd) (H1 : Heap) (locs1 : List Loc) (ls1 : Array Slot), LI G A H1 x1 q1 w1 x0 m0 o0 → LJ (k + 1) x1 q1 w1 → va_S A s.heap H1 locs1 → lv_has ls1 7 [(4, .int i), (3, .ref o0), (2, .ref m0), (1, .ref x0), (0, .ref b)] → W p G.1 e room_1 s m args below meth c H1 locs1 (q1.ce + 200) (q1.sl + 960000) Q (F0 m 1187 ls1 [])) : W p G.1 e room_1 s m args below meth c H locs (q.ce + 200) (q.sl + 960000) Q (F0 m 530 ls []) := by
  have hx := C.1.1
  have hb : c.code = cL_law := C.1.2.1
  obtain ⟨hu, hH, hm, el, b1, b2⟩ := id hJ
  obtain ⟨C9, wr, n9, lm, hj⟩ := el
  have el := JH_J hj
  refine lv_aload_n hx hb dlw_530 rfl (lv_at hl 3 rfl) ?_
  refine lv_aload_n hx hb dlw_531 rfl (lv_at hl 4 rfl) ?_
  refine lv_iload hx hb dlw_532 (lv_at hl 0 rfl) ?_
  refine lv_iconst (v := 1) hx hb dlw_534 (by decide +kernel) ?_
  refine lv_iadd hx hb dlw_535 ?_
  refine va_sld hx hb hX hbl hbA hS (i := i + 1) v1 dlw_536 ?_
  refine lv_aload_n hx hb dlw_537 rfl (lv_at hl 1 rfl) ?_
  refine LI_S C hI hu hS hl.1 [vi (xs (i + 1).toNatClampNeg)] [.int (xs (i + 1).toNatClampNeg)] (fun _ => rfl) dlw_538 wcs_149 rfl (by intro h; cases h) (Nat.le_of_ble_eq_true rfl) (kw_cell (d := 870) hj hu hH (xs (i + 1).toNatClampNeg)) (LJ_room hJ hk) (fun r1 x1 q1 H1 locs1 hI hu1 hk1 hH1 hp1 hS => ?_)
  refine lv_istore (lv' := (5, .int r1) :: [(4, .int i), (3, .ref o0), (2, .ref m0), (1, .ref x0), (0, .ref b)]) hx hb dlw_541 hl (by decide) rfl (fun ls hl => ?_)
  refine lv_aload_n hx hb dlw_543 rfl (lv_at hl 3 rfl) ?_
  refine lv_aload_n hx hb dlw_544 rfl (lv_at hl 5 rfl) ?_
  refine lv_iload hx hb dlw_545 (lv_at hl 1 rfl) ?_
  refine lv_iconst (v := 1) hx hb dlw_547 (by decide +kernel) ?_
  refine lv_iadd hx hb dlw_548 ?_
  refine va_sld hx hb hX hbl hbA hS (i := i + 1) v1 dlw_549 ?_
  refine LI_M C hI hS hl.1 (restv := []) (d1 := 900) (F := fun r9 w1 => ansM C9 wr (f1Ch w) (f2Ce w (xs (i + 1).toNatClampNeg)) (tCe C9 wr n9 w (xs (i + 1).toNatClampNeg)) w r9 w1) [vi (xs (i + 1).toNatClampNeg)] [.int (xs (i + 1).toNatClampNeg)] (fun _ => rfl) dlw_550 wcm_151 rfl rfl (Nat.le_of_ble_eq_true rfl) (by decide) (by omega) (ma_cell hj hH hm (xs (i + 1).toNatClampNeg) (by omega) (fun _ _ h1 => h1)) ⟨(LJ_room hJ hk q1 hu1 hk1).1, (LJ_room hJ hk q1 hu1 hk1).2⟩ (fun r2 w1 H1 locs1 hI hpm hS => ?_)
  have hj2 := ja_cell hj hH1 hp1 hpm
  refine lv_istore (lv' := (6, .int r2) :: (5, .int r1) :: [(4, .int i), (3, .ref o0), (2, .ref m0), (1, .ref x0), (0, .ref b)]) hx hb dlw_553 hl (by decide) rfl (fun ls hl => ?_)
  refine lv_goto (tgt := 1187) hx hb dlw_555 (by decide) ?_
  exact kk x1 q1 w1 H1 locs1 ls hI (LJ_next hJ hu1 hk1 hH1 hpm.1 hj2.1) hS (lv_tl (lv_tl hl))
set_option maxRecDepth 100000 in
set_option maxHeartbeats 4000000 in
theorem lc_13 {p : Program} {e : Env} {s : State} {m : MethodId} {args : Array Value} {below : List Frame} {meth : Method} {c : Code} {H : Heap} {locs : List Loc} {Q : State → Prop} {ls : Array Slot} {A : Nat → Prop} {G : kG} {x w : gd} {q : kP} {x0 m0 o0 b L k : Nat} {xs : Nat → Int32} {i : Int32} (C : gC (wE (kE G)) 1000 yLaw p room_1 s m args meth c A) (hX : va_X b L xs s s.heap) (hbl : b < s.heap.size) (hbA : ¬ A b) (hI : LI G A H x q w x0 m0 o0) (hJ : LJ k x q w) (hk : k < 64) (hS : va_S A s.heap H locs) (v1 : vp_in (i + 1) L) (v2 : vp_in (i + 2) L) (v3 : vp_in (i + 3) L) (hl : lv_has ls 7 [(4, .int i), (3, .ref o0), (2, .ref m0), (1, .ref x0), (0, .ref b)]) (kk : ∀ (x1 : gd) (q1 : kP) (w1 : gd) (H1 : Heap) (locs1 : List Loc) (ls1 : Array Slot), LI G A H1 x1 q1 w1 x0 m0 o0 → LJ (k + 1) x1 q1 w1 → va_S A s.heap H1 locs1 → lv_has ls1 7 [(4, .int i), (3, .ref o0), (2, .ref m0), (1, .ref x0), (0, .ref b)] → W p G.1 e room_1 s m args below meth c H1 locs1 (q1.ce + 200) (q1.sl + 960000) Q (F0 m 1187 ls1 [])) : W p G.1 e room_1 s m args below meth c H locs (q.ce + 200) (q.sl + 960000) Q (F0 m 558 ls []) := by
  have hx := C.1.1
  have hb : c.code = cL_law := C.1.2.1
  obtain ⟨hu, hH, hm, el, b1, b2⟩ := id hJ
  obtain ⟨C9, wr, n9, lm, hj⟩ := el
  have el := JH_J hj
  refine lv_aload_n hx hb dlw_558 rfl (lv_at hl 3 rfl) ?_
  refine lv_aload_n hx hb dlw_559 rfl (lv_at hl 4 rfl) ?_
  refine lv_iload hx hb dlw_560 (lv_at hl 0 rfl) ?_
  refine lv_iconst (v := 1) hx hb dlw_562 (by decide +kernel) ?_
  refine lv_iadd hx hb dlw_563 ?_
  refine va_sld hx hb hX hbl hbA hS (i := i + 1) v1 dlw_564 ?_
  refine lv_aload_n hx hb dlw_565 rfl (lv_at hl 4 rfl) ?_
  refine lv_iload hx hb dlw_566 (lv_at hl 0 rfl) ?_
  refine lv_iconst (v := 2) hx hb dlw_568 (by decide +kernel) ?_
  refine lv_iadd hx hb dlw_569 ?_
  refine va_sld hx hb hX hbl hbA hS (i := i + 2) v2 dlw_570 ?_
  refine lv_aload_n hx hb dlw_571 rfl (lv_at hl 1 rfl) ?_
  refine LI_S C hI hu hS hl.1 [vi (xs (i + 1).toNatClampNeg), vi (xs (i + 2).toNatClampNeg)] [.int (xs (i + 1).toNatClampNeg), .int (xs (i + 2).toNatClampNeg)] (fun _ => rfl) dlw_572 wcs_152 rfl (by intro h; cases h) (Nat.le_of_ble_eq_true rfl) (kw_seen (d := 870) hj hu hH (xs (i + 1).toNatClampNeg) (xs (i + 2).toNatClampNeg)) (LJ_room hJ hk) (fun r1 x1 q1 H1 locs1 hI hu1 hk1 hH1 hp1 hS => ?_)
  refine lv_istore (lv' := (5, .int r1) :: [(4, .int i), (3, .ref o0), (2, .ref m0), (1, .ref x0), (0, .ref b)]) hx hb dlw_575 hl (by decide) rfl (fun ls hl => ?_)
  refine lv_aload_n hx hb dlw_577 rfl (lv_at hl 3 rfl) ?_
  refine lv_aload_n hx hb dlw_578 rfl (lv_at hl 5 rfl) ?_
  refine lv_iload hx hb dlw_579 (lv_at hl 1 rfl) ?_
  refine lv_iconst (v := 1) hx hb dlw_581 (by decide +kernel) ?_
  refine lv_iadd hx hb dlw_582 ?_
  refine va_sld hx hb hX hbl hbA hS (i := i + 1) v1 dlw_583 ?_
  refine lv_aload_n hx hb dlw_584 rfl (lv_at hl 5 rfl) ?_
  refine lv_iload hx hb dlw_585 (lv_at hl 1 rfl) ?_
  refine lv_iconst (v := 2) hx hb dlw_587 (by decide +kernel) ?_
  refine lv_iadd hx hb dlw_588 ?_
  refine va_sld hx hb hX hbl hbA hS (i := i + 2) v2 dlw_589 ?_
  refine LI_M C hI hS hl.1 (restv := []) (d1 := 900) (F := fun r9 w1 => ansM C9 wr (f1Ch w) (f2Se w (xs (i + 1).toNatClampNeg) (xs (i + 2).toNatClampNeg)) (tSe C9 wr n9 w (xs (i + 1).toNatClampNeg) (xs (i + 2).toNatClampNeg)) w r9 w1) [vi (xs (i + 1).toNatClampNeg), vi (xs (i + 2).toNatClampNeg)] [.int (xs (i + 1).toNatClampNeg), .int (xs (i + 2).toNatClampNeg)] (fun _ => rfl) dlw_590 wcm_154 rfl rfl (Nat.le_of_ble_eq_true rfl) (by decide) (by omega) (ma_seen hj hH hm (xs (i + 1).toNatClampNeg) (xs (i + 2).toNatClampNeg) (by omega) (fun _ _ h1 => h1)) ⟨(LJ_room hJ hk q1 hu1 hk1).1, (LJ_room hJ hk q1 hu1 hk1).2⟩ (fun r2 w1 H1 locs1 hI hpm hS => ?_)
  have hj2 := ja_seen hj hH1 hp1 hpm
  refine lv_istore (lv' := (6, .int r2) :: (5, .int r1) :: [(4, .int i), (3, .ref o0), (2, .ref m0), (1, .ref x0), (0, .ref b)]) hx hb dlw_593 hl (by decide) rfl (fun ls hl => ?_)
  refine lv_goto (tgt := 1187) hx hb dlw_595 (by decide) ?_
  exact kk x1 q1 w1 H1 locs1 ls hI (LJ_next hJ hu1 hk1 hH1 hpm.1 hj2.1) hS (lv_tl (lv_tl hl))
set_option maxRecDepth 100000 in
set_option maxHeartbeats 4000000 in
theorem lc_14 {p : Program} {e : Env} {s : State} {m : MethodId} {args : Array Value} {below : List Frame} {meth : Method} {c : Code} {H : Heap} {locs : List Loc} {Q : State → Prop} {ls : Array Slot} {A : Nat → Prop} {G : kG} {x w : gd} {q : kP} {x0 m0 o0 b L k : Nat} {xs : Nat → Int32} {i : Int32} (C : gC (wE (kE G)) 1000 yLaw p room_1 s m args meth c A) (hX : va_X b L xs s s.heap) (hbl : b < s.heap.size) (hbA : ¬ A b) (hI : LI G A H x q w x0 m0 o0) (hJ : LJ k x q w) (hk : k < 64) (hS : va_S A s.heap H locs) (v1 : vp_in (i + 1) L) (v2 : vp_in (i + 2) L) (v3 : vp_in (i + 3) L) (hl : lv_has ls 7 [(4, .int i), (3, .ref o0), (2, .ref m0), (1, .ref x0), (0, .ref b)]) (kk : ∀ (x1 : gd) (q1 : kP) (w1 : gd) (H1 : Heap) (locs1 : List Loc) (ls1 : Array Slot), LI G A H1 x1 q1 w1 x0 m0 o0 → LJ (k + 1) x1 q1 w1 → va_S A s.heap H1 locs1 → lv_has ls1 7 [(4, .int i), (3, .ref o0), (2, .ref m0), (1, .ref x0), (0, .ref b)] → W p G.1 e room_1 s m args below meth c H1 locs1 (q1.ce + 200) (q1.sl + 960000) Q (F0 m 1187 ls1 [])) : W p G.1 e room_1 s m args below meth c H locs (q.ce + 200) (q.sl + 960000) Q (F0 m 598 ls []) := by
  have hx := C.1.1
  have hb : c.code = cL_law := C.1.2.1
  obtain ⟨hu, hH, hm, el, b1, b2⟩ := id hJ
  obtain ⟨C9, wr, n9, lm, hj⟩ := el
  have el := JH_J hj
  refine lv_aload_n hx hb dlw_598 rfl (lv_at hl 3 rfl) ?_
  refine lv_aload_n hx hb dlw_599 rfl (lv_at hl 4 rfl) ?_
  refine lv_iload hx hb dlw_600 (lv_at hl 0 rfl) ?_
  refine lv_iconst (v := 1) hx hb dlw_602 (by decide +kernel) ?_
  refine lv_iadd hx hb dlw_603 ?_
  refine va_sld hx hb hX hbl hbA hS (i := i + 1) v1 dlw_604 ?_
  refine lv_aload_n hx hb dlw_605 rfl (lv_at hl 4 rfl) ?_
  refine lv_iload hx hb dlw_606 (lv_at hl 0 rfl) ?_
  refine lv_iconst (v := 2) hx hb dlw_608 (by decide +kernel) ?_
  refine lv_iadd hx hb dlw_609 ?_
  refine va_sld hx hb hX hbl hbA hS (i := i + 2) v2 dlw_610 ?_
  refine lv_aload_n hx hb dlw_611 rfl (lv_at hl 1 rfl) ?_
  refine LI_S C hI hu hS hl.1 [vi (xs (i + 1).toNatClampNeg), vi (xs (i + 2).toNatClampNeg)] [.int (xs (i + 1).toNatClampNeg), .int (xs (i + 2).toNatClampNeg)] (fun _ => rfl) dlw_612 wcs_155 rfl (by intro h; cases h) (Nat.le_of_ble_eq_true rfl) (kw_lock (d := 870) hu hH (xs (i + 1).toNatClampNeg) (xs (i + 2).toNatClampNeg)) (LJ_room hJ hk) (fun r1 x1 q1 H1 locs1 hI hu1 hk1 hH1 hp1 hS => ?_)
  refine lv_istore (lv' := (5, .int r1) :: [(4, .int i), (3, .ref o0), (2, .ref m0), (1, .ref x0), (0, .ref b)]) hx hb dlw_615 hl (by decide) rfl (fun ls hl => ?_)
  refine lv_aload_n hx hb dlw_617 rfl (lv_at hl 3 rfl) ?_
  refine lv_aload_n hx hb dlw_618 rfl (lv_at hl 5 rfl) ?_
  refine lv_iload hx hb dlw_619 (lv_at hl 1 rfl) ?_
  refine lv_iconst (v := 1) hx hb dlw_621 (by decide +kernel) ?_
  refine lv_iadd hx hb dlw_622 ?_
  refine va_sld hx hb hX hbl hbA hS (i := i + 1) v1 dlw_623 ?_
  refine lv_aload_n hx hb dlw_624 rfl (lv_at hl 5 rfl) ?_
  refine lv_iload hx hb dlw_625 (lv_at hl 1 rfl) ?_
  refine lv_iconst (v := 2) hx hb dlw_627 (by decide +kernel) ?_
  refine lv_iadd hx hb dlw_628 ?_
  refine va_sld hx hb hX hbl hbA hS (i := i + 2) v2 dlw_629 ?_
  refine LI_M C hI hS hl.1 (restv := []) (d1 := 900) (F := fun _ w1 => rdM C9 wr w w1) [vi (xs (i + 1).toNatClampNeg), vi (xs (i + 2).toNatClampNeg)] [.int (xs (i + 1).toNatClampNeg), .int (xs (i + 2).toNatClampNeg)] (fun _ => rfl) dlw_630 wcm_157 rfl rfl (Nat.le_of_ble_eq_true rfl) (by decide) (by omega) (sr_lock hm (xs (i + 1).toNatClampNeg) (xs (i + 2).toNatClampNeg) (by omega) (fun _ _ h => h)) ⟨(LJ_room hJ hk q1 hu1 hk1).1, (LJ_room hJ hk q1 hu1 hk1).2⟩ (fun r2 w1 H1 locs1 hI hpm hS => ?_)
  refine lv_istore (lv' := (6, .int r2) :: (5, .int r1) :: [(4, .int i), (3, .ref o0), (2, .ref m0), (1, .ref x0), (0, .ref b)]) hx hb dlw_633 hl (by decide) rfl (fun ls hl => ?_)
  refine lv_goto (tgt := 1187) hx hb dlw_635 (by decide) ?_
  exact kk x1 q1 w1 H1 locs1 ls hI (LJ_next hJ hu1 hk1 hH1 hpm.1.1 (JQ_rd hj hH1 hp1 hpm)) hS (lv_tl (lv_tl hl))
set_option maxRecDepth 100000 in
set_option maxHeartbeats 4000000 in
theorem lc_15 {p : Program} {e : Env} {s : State} {m : MethodId} {args : Array Value} {below : List Frame} {meth : Method} {c : Code} {H : Heap} {locs : List Loc} {Q : State → Prop} {ls : Array Slot} {A : Nat → Prop} {G : kG} {x w : gd} {q : kP} {x0 m0 o0 b L k : Nat} {xs : Nat → Int32} {i : Int32} (C : gC (wE (kE G)) 1000 yLaw p room_1 s m args meth c A) (hX : va_X b L xs s s.heap) (hbl : b < s.heap.size) (hbA : ¬ A b) (hI : LI G A H x q w x0 m0 o0) (hJ : LJ k x q w) (hk : k < 64) (hS : va_S A s.heap H locs) (v1 : vp_in (i + 1) L) (v2 : vp_in (i + 2) L) (v3 : vp_in (i + 3) L) (hl : lv_has ls 7 [(4, .int i), (3, .ref o0), (2, .ref m0), (1, .ref x0), (0, .ref b)]) (kk : ∀ (x1 : gd) (q1 : kP) (w1 : gd) (H1 : Heap) (locs1 : List Loc) (ls1 : Array Slot), LI G A H1 x1 q1 w1 x0 m0 o0 → LJ (k + 1) x1 q1 w1 → va_S A s.heap H1 locs1 → lv_has ls1 7 [(4, .int i), (3, .ref o0), (2, .ref m0), (1, .ref x0), (0, .ref b)] → W p G.1 e room_1 s m args below meth c H1 locs1 (q1.ce + 200) (q1.sl + 960000) Q (F0 m 1187 ls1 [])) : W p G.1 e room_1 s m args below meth c H locs (q.ce + 200) (q.sl + 960000) Q (F0 m 638 ls []) := by
  have hx := C.1.1
  have hb : c.code = cL_law := C.1.2.1
  obtain ⟨hu, hH, hm, el, b1, b2⟩ := id hJ
  obtain ⟨C9, wr, n9, lm, hj⟩ := el
  have el := JH_J hj
  refine lv_aload_n hx hb dlw_638 rfl (lv_at hl 3 rfl) ?_
  refine lv_aload_n hx hb dlw_639 rfl (lv_at hl 4 rfl) ?_
  refine lv_iload hx hb dlw_640 (lv_at hl 0 rfl) ?_
  refine lv_iconst (v := 1) hx hb dlw_642 (by decide +kernel) ?_
  refine lv_iadd hx hb dlw_643 ?_
  refine va_sld hx hb hX hbl hbA hS (i := i + 1) v1 dlw_644 ?_
  refine lv_aload_n hx hb dlw_645 rfl (lv_at hl 4 rfl) ?_
  refine lv_iload hx hb dlw_646 (lv_at hl 0 rfl) ?_
  refine lv_iconst (v := 2) hx hb dlw_648 (by decide +kernel) ?_
  refine lv_iadd hx hb dlw_649 ?_
  refine va_sld hx hb hX hbl hbA hS (i := i + 2) v2 dlw_650 ?_
  refine lv_aload_n hx hb dlw_651 rfl (lv_at hl 1 rfl) ?_
  refine LI_S C hI hu hS hl.1 [vi (xs (i + 1).toNatClampNeg), vi (xs (i + 2).toNatClampNeg)] [.int (xs (i + 1).toNatClampNeg), .int (xs (i + 2).toNatClampNeg)] (fun _ => rfl) dlw_652 wcs_158 rfl (by intro h; cases h) (Nat.le_of_ble_eq_true rfl) (kw_thread (d := 870) hu hH (xs (i + 1).toNatClampNeg) (xs (i + 2).toNatClampNeg)) (LJ_room hJ hk) (fun r1 x1 q1 H1 locs1 hI hu1 hk1 hH1 hp1 hS => ?_)
  refine lv_istore (lv' := (5, .int r1) :: [(4, .int i), (3, .ref o0), (2, .ref m0), (1, .ref x0), (0, .ref b)]) hx hb dlw_655 hl (by decide) rfl (fun ls hl => ?_)
  refine lv_aload_n hx hb dlw_657 rfl (lv_at hl 3 rfl) ?_
  refine lv_aload_n hx hb dlw_658 rfl (lv_at hl 5 rfl) ?_
  refine lv_iload hx hb dlw_659 (lv_at hl 1 rfl) ?_
  refine lv_iconst (v := 1) hx hb dlw_661 (by decide +kernel) ?_
  refine lv_iadd hx hb dlw_662 ?_
  refine va_sld hx hb hX hbl hbA hS (i := i + 1) v1 dlw_663 ?_
  refine lv_aload_n hx hb dlw_664 rfl (lv_at hl 5 rfl) ?_
  refine lv_iload hx hb dlw_665 (lv_at hl 1 rfl) ?_
  refine lv_iconst (v := 2) hx hb dlw_667 (by decide +kernel) ?_
  refine lv_iadd hx hb dlw_668 ?_
  refine va_sld hx hb hX hbl hbA hS (i := i + 2) v2 dlw_669 ?_
  refine LI_M C hI hS hl.1 (restv := []) (d1 := 900) (F := fun _ w1 => rdM C9 wr w w1) [vi (xs (i + 1).toNatClampNeg), vi (xs (i + 2).toNatClampNeg)] [.int (xs (i + 1).toNatClampNeg), .int (xs (i + 2).toNatClampNeg)] (fun _ => rfl) dlw_670 wcm_160 rfl rfl (Nat.le_of_ble_eq_true rfl) (by decide) (by omega) (sr_thread hm (xs (i + 1).toNatClampNeg) (xs (i + 2).toNatClampNeg) (by omega) (fun _ _ h => h)) ⟨(LJ_room hJ hk q1 hu1 hk1).1, (LJ_room hJ hk q1 hu1 hk1).2⟩ (fun r2 w1 H1 locs1 hI hpm hS => ?_)
  refine lv_istore (lv' := (6, .int r2) :: (5, .int r1) :: [(4, .int i), (3, .ref o0), (2, .ref m0), (1, .ref x0), (0, .ref b)]) hx hb dlw_673 hl (by decide) rfl (fun ls hl => ?_)
  refine lv_goto (tgt := 1187) hx hb dlw_675 (by decide) ?_
  exact kk x1 q1 w1 H1 locs1 ls hI (LJ_next hJ hu1 hk1 hH1 hpm.1.1 (JQ_rd hj hH1 hp1 hpm)) hS (lv_tl (lv_tl hl))
set_option maxRecDepth 100000 in
set_option maxHeartbeats 4000000 in
theorem lc_16 {p : Program} {e : Env} {s : State} {m : MethodId} {args : Array Value} {below : List Frame} {meth : Method} {c : Code} {H : Heap} {locs : List Loc} {Q : State → Prop} {ls : Array Slot} {A : Nat → Prop} {G : kG} {x w : gd} {q : kP} {x0 m0 o0 b L k : Nat} {xs : Nat → Int32} {i : Int32} (C : gC (wE (kE G)) 1000 yLaw p room_1 s m args meth c A) (hX : va_X b L xs s s.heap) (hbl : b < s.heap.size) (hbA : ¬ A b) (hI : LI G A H x q w x0 m0 o0) (hJ : LJ k x q w) (hk : k < 64) (hS : va_S A s.heap H locs) (v1 : vp_in (i + 1) L) (v2 : vp_in (i + 2) L) (v3 : vp_in (i + 3) L) (hl : lv_has ls 7 [(4, .int i), (3, .ref o0), (2, .ref m0), (1, .ref x0), (0, .ref b)]) (kk : ∀ (x1 : gd) (q1 : kP) (w1 : gd) (H1 : Heap) (locs1 : List Loc) (ls1 : Array Slot), LI G A H1 x1 q1 w1 x0 m0 o0 → LJ (k + 1) x1 q1 w1 → va_S A s.heap H1 locs1 → lv_has ls1 7 [(4, .int i), (3, .ref o0), (2, .ref m0), (1, .ref x0), (0, .ref b)] → W p G.1 e room_1 s m args below meth c H1 locs1 (q1.ce + 200) (q1.sl + 960000) Q (F0 m 1187 ls1 [])) : W p G.1 e room_1 s m args below meth c H locs (q.ce + 200) (q.sl + 960000) Q (F0 m 678 ls []) := by
  have hx := C.1.1
  have hb : c.code = cL_law := C.1.2.1
  obtain ⟨hu, hH, hm, el, b1, b2⟩ := id hJ
  obtain ⟨C9, wr, n9, lm, hj⟩ := el
  have el := JH_J hj
  refine lv_aload_n hx hb dlw_678 rfl (lv_at hl 3 rfl) ?_
  refine lv_aload_n hx hb dlw_679 rfl (lv_at hl 4 rfl) ?_
  refine lv_iload hx hb dlw_680 (lv_at hl 0 rfl) ?_
  refine lv_iconst (v := 1) hx hb dlw_682 (by decide +kernel) ?_
  refine lv_iadd hx hb dlw_683 ?_
  refine va_sld hx hb hX hbl hbA hS (i := i + 1) v1 dlw_684 ?_
  refine lv_aload_n hx hb dlw_685 rfl (lv_at hl 4 rfl) ?_
  refine lv_iload hx hb dlw_686 (lv_at hl 0 rfl) ?_
  refine lv_iconst (v := 2) hx hb dlw_688 (by decide +kernel) ?_
  refine lv_iadd hx hb dlw_689 ?_
  refine va_sld hx hb hX hbl hbA hS (i := i + 2) v2 dlw_690 ?_
  refine lv_aload_n hx hb dlw_691 rfl (lv_at hl 1 rfl) ?_
  refine LI_S C hI hu hS hl.1 [vi (xs (i + 1).toNatClampNeg), vi (xs (i + 2).toNatClampNeg)] [.int (xs (i + 1).toNatClampNeg), .int (xs (i + 2).toNatClampNeg)] (fun _ => rfl) dlw_692 wcs_161 rfl (by intro h; cases h) (Nat.le_of_ble_eq_true rfl) (kw_local (d := 870) hj hu hH (xs (i + 1).toNatClampNeg) (xs (i + 2).toNatClampNeg)) (LJ_room hJ hk) (fun r1 x1 q1 H1 locs1 hI hu1 hk1 hH1 hp1 hS => ?_)
  refine lv_istore (lv' := (5, .int r1) :: [(4, .int i), (3, .ref o0), (2, .ref m0), (1, .ref x0), (0, .ref b)]) hx hb dlw_695 hl (by decide) rfl (fun ls hl => ?_)
  refine lv_aload_n hx hb dlw_697 rfl (lv_at hl 3 rfl) ?_
  refine lv_aload_n hx hb dlw_698 rfl (lv_at hl 5 rfl) ?_
  refine lv_iload hx hb dlw_699 (lv_at hl 1 rfl) ?_
  refine lv_iconst (v := 1) hx hb dlw_701 (by decide +kernel) ?_
  refine lv_iadd hx hb dlw_702 ?_
  refine va_sld hx hb hX hbl hbA hS (i := i + 1) v1 dlw_703 ?_
  refine lv_aload_n hx hb dlw_704 rfl (lv_at hl 5 rfl) ?_
  refine lv_iload hx hb dlw_705 (lv_at hl 1 rfl) ?_
  refine lv_iconst (v := 2) hx hb dlw_707 (by decide +kernel) ?_
  refine lv_iadd hx hb dlw_708 ?_
  refine va_sld hx hb hX hbl hbA hS (i := i + 2) v2 dlw_709 ?_
  refine LI_M C hI hS hl.1 (restv := []) (d1 := 900) (F := fun r9 w1 => ansM C9 wr (f1Ch w) (f2Lo C9 wr n9 w (xs (i + 1).toNatClampNeg) (xs (i + 2).toNatClampNeg)) (tLo C9 wr n9 w (xs (i + 1).toNatClampNeg) (xs (i + 2).toNatClampNeg)) w r9 w1) [vi (xs (i + 1).toNatClampNeg), vi (xs (i + 2).toNatClampNeg)] [.int (xs (i + 1).toNatClampNeg), .int (xs (i + 2).toNatClampNeg)] (fun _ => rfl) dlw_710 wcm_163 rfl rfl (Nat.le_of_ble_eq_true rfl) (by decide) (by omega) (ma_local hj hH hm (xs (i + 1).toNatClampNeg) (xs (i + 2).toNatClampNeg) (by omega) (fun _ _ h1 => h1)) ⟨(LJ_room hJ hk q1 hu1 hk1).1, (LJ_room hJ hk q1 hu1 hk1).2⟩ (fun r2 w1 H1 locs1 hI hpm hS => ?_)
  have hj2 := ja_local hj hH1 hp1 hpm
  refine lv_istore (lv' := (6, .int r2) :: (5, .int r1) :: [(4, .int i), (3, .ref o0), (2, .ref m0), (1, .ref x0), (0, .ref b)]) hx hb dlw_713 hl (by decide) rfl (fun ls hl => ?_)
  refine lv_goto (tgt := 1187) hx hb dlw_715 (by decide) ?_
  exact kk x1 q1 w1 H1 locs1 ls hI (LJ_next hJ hu1 hk1 hH1 hpm.1 hj2.1) hS (lv_tl (lv_tl hl))
set_option maxRecDepth 100000 in
set_option maxHeartbeats 4000000 in
theorem lc_17 {p : Program} {e : Env} {s : State} {m : MethodId} {args : Array Value} {below : List Frame} {meth : Method} {c : Code} {H : Heap} {locs : List Loc} {Q : State → Prop} {ls : Array Slot} {A : Nat → Prop} {G : kG} {x w : gd} {q : kP} {x0 m0 o0 b L k : Nat} {xs : Nat → Int32} {i : Int32} (C : gC (wE (kE G)) 1000 yLaw p room_1 s m args meth c A) (hX : va_X b L xs s s.heap) (hbl : b < s.heap.size) (hbA : ¬ A b) (hI : LI G A H x q w x0 m0 o0) (hJ : LJ k x q w) (hk : k < 64) (hS : va_S A s.heap H locs) (v1 : vp_in (i + 1) L) (v2 : vp_in (i + 2) L) (v3 : vp_in (i + 3) L) (hl : lv_has ls 7 [(4, .int i), (3, .ref o0), (2, .ref m0), (1, .ref x0), (0, .ref b)]) (kk : ∀ (x1 : gd) (q1 : kP) (w1 : gd) (H1 : Heap) (locs1 : List Loc) (ls1 : Array Slot), LI G A H1 x1 q1 w1 x0 m0 o0 → LJ (k + 1) x1 q1 w1 → va_S A s.heap H1 locs1 → lv_has ls1 7 [(4, .int i), (3, .ref o0), (2, .ref m0), (1, .ref x0), (0, .ref b)] → W p G.1 e room_1 s m args below meth c H1 locs1 (q1.ce + 200) (q1.sl + 960000) Q (F0 m 1187 ls1 [])) : W p G.1 e room_1 s m args below meth c H locs (q.ce + 200) (q.sl + 960000) Q (F0 m 718 ls []) := by
  have hx := C.1.1
  have hb : c.code = cL_law := C.1.2.1
  obtain ⟨hu, hH, hm, el, b1, b2⟩ := id hJ
  obtain ⟨C9, wr, n9, lm, hj⟩ := el
  have el := JH_J hj
  refine lv_aload_n hx hb dlw_718 rfl (lv_at hl 3 rfl) ?_
  refine lv_aload_n hx hb dlw_719 rfl (lv_at hl 4 rfl) ?_
  refine lv_iload hx hb dlw_720 (lv_at hl 0 rfl) ?_
  refine lv_iconst (v := 1) hx hb dlw_722 (by decide +kernel) ?_
  refine lv_iadd hx hb dlw_723 ?_
  refine va_sld hx hb hX hbl hbA hS (i := i + 1) v1 dlw_724 ?_
  refine lv_aload_n hx hb dlw_725 rfl (lv_at hl 4 rfl) ?_
  refine lv_iload hx hb dlw_726 (lv_at hl 0 rfl) ?_
  refine lv_iconst (v := 2) hx hb dlw_728 (by decide +kernel) ?_
  refine lv_iadd hx hb dlw_729 ?_
  refine va_sld hx hb hX hbl hbA hS (i := i + 2) v2 dlw_730 ?_
  refine lv_aload_n hx hb dlw_731 rfl (lv_at hl 1 rfl) ?_
  refine LI_S C hI hu hS hl.1 [vi (xs (i + 1).toNatClampNeg), vi (xs (i + 2).toNatClampNeg)] [.int (xs (i + 1).toNatClampNeg), .int (xs (i + 2).toNatClampNeg)] (fun _ => rfl) dlw_732 wcs_164 rfl (by intro h; cases h) (Nat.le_of_ble_eq_true rfl) (kw_act (d := 870) hu hH (xs (i + 1).toNatClampNeg) (xs (i + 2).toNatClampNeg)) (LJ_room hJ hk) (fun r1 x1 q1 H1 locs1 hI hu1 hk1 hH1 hp1 hS => ?_)
  refine lv_istore (lv' := (5, .int r1) :: [(4, .int i), (3, .ref o0), (2, .ref m0), (1, .ref x0), (0, .ref b)]) hx hb dlw_735 hl (by decide) rfl (fun ls hl => ?_)
  refine lv_aload_n hx hb dlw_737 rfl (lv_at hl 3 rfl) ?_
  refine lv_aload_n hx hb dlw_738 rfl (lv_at hl 5 rfl) ?_
  refine lv_iload hx hb dlw_739 (lv_at hl 1 rfl) ?_
  refine lv_iconst (v := 1) hx hb dlw_741 (by decide +kernel) ?_
  refine lv_iadd hx hb dlw_742 ?_
  refine va_sld hx hb hX hbl hbA hS (i := i + 1) v1 dlw_743 ?_
  refine lv_aload_n hx hb dlw_744 rfl (lv_at hl 5 rfl) ?_
  refine lv_iload hx hb dlw_745 (lv_at hl 1 rfl) ?_
  refine lv_iconst (v := 2) hx hb dlw_747 (by decide +kernel) ?_
  refine lv_iadd hx hb dlw_748 ?_
  refine va_sld hx hb hX hbl hbA hS (i := i + 2) v2 dlw_749 ?_
  refine LI_M C hI hS hl.1 (restv := []) (d1 := 900) (F := fun _ w1 => rdM C9 wr w w1) [vi (xs (i + 1).toNatClampNeg), vi (xs (i + 2).toNatClampNeg)] [.int (xs (i + 1).toNatClampNeg), .int (xs (i + 2).toNatClampNeg)] (fun _ => rfl) dlw_750 wcm_166 rfl rfl (Nat.le_of_ble_eq_true rfl) (by decide) (by omega) (sr_act hm (xs (i + 1).toNatClampNeg) (xs (i + 2).toNatClampNeg) (by omega) (fun _ _ h => h)) ⟨(LJ_room hJ hk q1 hu1 hk1).1, (LJ_room hJ hk q1 hu1 hk1).2⟩ (fun r2 w1 H1 locs1 hI hpm hS => ?_)
  refine lv_istore (lv' := (6, .int r2) :: (5, .int r1) :: [(4, .int i), (3, .ref o0), (2, .ref m0), (1, .ref x0), (0, .ref b)]) hx hb dlw_753 hl (by decide) rfl (fun ls hl => ?_)
  refine lv_goto (tgt := 1187) hx hb dlw_755 (by decide) ?_
  exact kk x1 q1 w1 H1 locs1 ls hI (LJ_next hJ hu1 hk1 hH1 hpm.1.1 (JQ_rd hj hH1 hp1 hpm)) hS (lv_tl (lv_tl hl))
set_option maxRecDepth 100000 in
set_option maxHeartbeats 4000000 in
theorem lc_18 {p : Program} {e : Env} {s : State} {m : MethodId} {args : Array Value} {below : List Frame} {meth : Method} {c : Code} {H : Heap} {locs : List Loc} {Q : State → Prop} {ls : Array Slot} {A : Nat → Prop} {G : kG} {x w : gd} {q : kP} {x0 m0 o0 b L k : Nat} {xs : Nat → Int32} {i : Int32} (C : gC (wE (kE G)) 1000 yLaw p room_1 s m args meth c A) (hX : va_X b L xs s s.heap) (hbl : b < s.heap.size) (hbA : ¬ A b) (hI : LI G A H x q w x0 m0 o0) (hJ : LJ k x q w) (hk : k < 64) (hS : va_S A s.heap H locs) (v1 : vp_in (i + 1) L) (v2 : vp_in (i + 2) L) (v3 : vp_in (i + 3) L) (hl : lv_has ls 7 [(4, .int i), (3, .ref o0), (2, .ref m0), (1, .ref x0), (0, .ref b)]) (kk : ∀ (x1 : gd) (q1 : kP) (w1 : gd) (H1 : Heap) (locs1 : List Loc) (ls1 : Array Slot), LI G A H1 x1 q1 w1 x0 m0 o0 → LJ (k + 1) x1 q1 w1 → va_S A s.heap H1 locs1 → lv_has ls1 7 [(4, .int i), (3, .ref o0), (2, .ref m0), (1, .ref x0), (0, .ref b)] → W p G.1 e room_1 s m args below meth c H1 locs1 (q1.ce + 200) (q1.sl + 960000) Q (F0 m 1187 ls1 [])) : W p G.1 e room_1 s m args below meth c H locs (q.ce + 200) (q.sl + 960000) Q (F0 m 758 ls []) := by
  have hx := C.1.1
  have hb : c.code = cL_law := C.1.2.1
  obtain ⟨hu, hH, hm, el, b1, b2⟩ := id hJ
  obtain ⟨C9, wr, n9, lm, hj⟩ := el
  have el := JH_J hj
  refine lv_aload_n hx hb dlw_758 rfl (lv_at hl 3 rfl) ?_
  refine lv_aload_n hx hb dlw_759 rfl (lv_at hl 4 rfl) ?_
  refine lv_iload hx hb dlw_760 (lv_at hl 0 rfl) ?_
  refine lv_iconst (v := 1) hx hb dlw_762 (by decide +kernel) ?_
  refine lv_iadd hx hb dlw_763 ?_
  refine va_sld hx hb hX hbl hbA hS (i := i + 1) v1 dlw_764 ?_
  refine lv_aload_n hx hb dlw_765 rfl (lv_at hl 4 rfl) ?_
  refine lv_iload hx hb dlw_766 (lv_at hl 0 rfl) ?_
  refine lv_iconst (v := 2) hx hb dlw_768 (by decide +kernel) ?_
  refine lv_iadd hx hb dlw_769 ?_
  refine va_sld hx hb hX hbl hbA hS (i := i + 2) v2 dlw_770 ?_
  refine lv_aload_n hx hb dlw_771 rfl (lv_at hl 1 rfl) ?_
  refine LI_S C hI hu hS hl.1 [vi (xs (i + 1).toNatClampNeg), vi (xs (i + 2).toNatClampNeg)] [.int (xs (i + 1).toNatClampNeg), .int (xs (i + 2).toNatClampNeg)] (fun _ => rfl) dlw_772 wcs_167 rfl (by intro h; cases h) (Nat.le_of_ble_eq_true rfl) (kw_before (d := 870) hu hH (xs (i + 1).toNatClampNeg) (xs (i + 2).toNatClampNeg)) (LJ_room hJ hk) (fun r1 x1 q1 H1 locs1 hI hu1 hk1 hH1 hp1 hS => ?_)
  refine lv_istore (lv' := (5, .int r1) :: [(4, .int i), (3, .ref o0), (2, .ref m0), (1, .ref x0), (0, .ref b)]) hx hb dlw_775 hl (by decide) rfl (fun ls hl => ?_)
  refine lv_aload_n hx hb dlw_777 rfl (lv_at hl 3 rfl) ?_
  refine lv_aload_n hx hb dlw_778 rfl (lv_at hl 5 rfl) ?_
  refine lv_iload hx hb dlw_779 (lv_at hl 1 rfl) ?_
  refine lv_iconst (v := 1) hx hb dlw_781 (by decide +kernel) ?_
  refine lv_iadd hx hb dlw_782 ?_
  refine va_sld hx hb hX hbl hbA hS (i := i + 1) v1 dlw_783 ?_
  refine lv_aload_n hx hb dlw_784 rfl (lv_at hl 5 rfl) ?_
  refine lv_iload hx hb dlw_785 (lv_at hl 1 rfl) ?_
  refine lv_iconst (v := 2) hx hb dlw_787 (by decide +kernel) ?_
  refine lv_iadd hx hb dlw_788 ?_
  refine va_sld hx hb hX hbl hbA hS (i := i + 2) v2 dlw_789 ?_
  refine LI_M C hI hS hl.1 (restv := []) (d1 := 900) (F := fun _ w1 => rdM C9 wr w w1) [vi (xs (i + 1).toNatClampNeg), vi (xs (i + 2).toNatClampNeg)] [.int (xs (i + 1).toNatClampNeg), .int (xs (i + 2).toNatClampNeg)] (fun _ => rfl) dlw_790 wcm_169 rfl rfl (Nat.le_of_ble_eq_true rfl) (by decide) (by omega) (sr_before hm (xs (i + 1).toNatClampNeg) (xs (i + 2).toNatClampNeg) (by omega) (fun _ _ h => h)) ⟨(LJ_room hJ hk q1 hu1 hk1).1, (LJ_room hJ hk q1 hu1 hk1).2⟩ (fun r2 w1 H1 locs1 hI hpm hS => ?_)
  refine lv_istore (lv' := (6, .int r2) :: (5, .int r1) :: [(4, .int i), (3, .ref o0), (2, .ref m0), (1, .ref x0), (0, .ref b)]) hx hb dlw_793 hl (by decide) rfl (fun ls hl => ?_)
  refine lv_goto (tgt := 1187) hx hb dlw_795 (by decide) ?_
  exact kk x1 q1 w1 H1 locs1 ls hI (LJ_next hJ hu1 hk1 hH1 hpm.1.1 (JQ_rd hj hH1 hp1 hpm)) hS (lv_tl (lv_tl hl))
set_option maxRecDepth 100000 in
set_option maxHeartbeats 4000000 in
theorem lc_19 {p : Program} {e : Env} {s : State} {m : MethodId} {args : Array Value} {below : List Frame} {meth : Method} {c : Code} {H : Heap} {locs : List Loc} {Q : State → Prop} {ls : Array Slot} {A : Nat → Prop} {G : kG} {x w : gd} {q : kP} {x0 m0 o0 b L k : Nat} {xs : Nat → Int32} {i : Int32} (C : gC (wE (kE G)) 1000 yLaw p room_1 s m args meth c A) (hX : va_X b L xs s s.heap) (hbl : b < s.heap.size) (hbA : ¬ A b) (hI : LI G A H x q w x0 m0 o0) (hJ : LJ k x q w) (hk : k < 64) (hS : va_S A s.heap H locs) (v1 : vp_in (i + 1) L) (v2 : vp_in (i + 2) L) (v3 : vp_in (i + 3) L) (hl : lv_has ls 7 [(4, .int i), (3, .ref o0), (2, .ref m0), (1, .ref x0), (0, .ref b)]) (kk : ∀ (x1 : gd) (q1 : kP) (w1 : gd) (H1 : Heap) (locs1 : List Loc) (ls1 : Array Slot), LI G A H1 x1 q1 w1 x0 m0 o0 → LJ (k + 1) x1 q1 w1 → va_S A s.heap H1 locs1 → lv_has ls1 7 [(4, .int i), (3, .ref o0), (2, .ref m0), (1, .ref x0), (0, .ref b)] → W p G.1 e room_1 s m args below meth c H1 locs1 (q1.ce + 200) (q1.sl + 960000) Q (F0 m 1187 ls1 [])) : W p G.1 e room_1 s m args below meth c H locs (q.ce + 200) (q.sl + 960000) Q (F0 m 798 ls []) := by
  have hx := C.1.1
  have hb : c.code = cL_law := C.1.2.1
  obtain ⟨hu, hH, hm, el, b1, b2⟩ := id hJ
  obtain ⟨C9, wr, n9, lm, hj⟩ := el
  have el := JH_J hj
  refine lv_aload_n hx hb dlw_798 rfl (lv_at hl 3 rfl) ?_
  refine lv_aload_n hx hb dlw_799 rfl (lv_at hl 4 rfl) ?_
  refine lv_iload hx hb dlw_800 (lv_at hl 0 rfl) ?_
  refine lv_iconst (v := 1) hx hb dlw_802 (by decide +kernel) ?_
  refine lv_iadd hx hb dlw_803 ?_
  refine va_sld hx hb hX hbl hbA hS (i := i + 1) v1 dlw_804 ?_
  refine lv_aload_n hx hb dlw_805 rfl (lv_at hl 4 rfl) ?_
  refine lv_iload hx hb dlw_806 (lv_at hl 0 rfl) ?_
  refine lv_iconst (v := 2) hx hb dlw_808 (by decide +kernel) ?_
  refine lv_iadd hx hb dlw_809 ?_
  refine va_sld hx hb hX hbl hbA hS (i := i + 2) v2 dlw_810 ?_
  refine lv_aload_n hx hb dlw_811 rfl (lv_at hl 1 rfl) ?_
  refine LI_S C hI hu hS hl.1 [vi (xs (i + 1).toNatClampNeg), vi (xs (i + 2).toNatClampNeg)] [.int (xs (i + 1).toNatClampNeg), .int (xs (i + 2).toNatClampNeg)] (fun _ => rfl) dlw_812 wcs_170 rfl (by intro h; cases h) (Nat.le_of_ble_eq_true rfl) (kw_race (d := 870) hu hH (xs (i + 1).toNatClampNeg) (xs (i + 2).toNatClampNeg)) (LJ_room hJ hk) (fun r1 x1 q1 H1 locs1 hI hu1 hk1 hH1 hp1 hS => ?_)
  refine lv_istore (lv' := (5, .int r1) :: [(4, .int i), (3, .ref o0), (2, .ref m0), (1, .ref x0), (0, .ref b)]) hx hb dlw_815 hl (by decide) rfl (fun ls hl => ?_)
  refine lv_aload_n hx hb dlw_817 rfl (lv_at hl 3 rfl) ?_
  refine lv_aload_n hx hb dlw_818 rfl (lv_at hl 5 rfl) ?_
  refine lv_iload hx hb dlw_819 (lv_at hl 1 rfl) ?_
  refine lv_iconst (v := 1) hx hb dlw_821 (by decide +kernel) ?_
  refine lv_iadd hx hb dlw_822 ?_
  refine va_sld hx hb hX hbl hbA hS (i := i + 1) v1 dlw_823 ?_
  refine lv_aload_n hx hb dlw_824 rfl (lv_at hl 5 rfl) ?_
  refine lv_iload hx hb dlw_825 (lv_at hl 1 rfl) ?_
  refine lv_iconst (v := 2) hx hb dlw_827 (by decide +kernel) ?_
  refine lv_iadd hx hb dlw_828 ?_
  refine va_sld hx hb hX hbl hbA hS (i := i + 2) v2 dlw_829 ?_
  refine LI_M C hI hS hl.1 (restv := []) (d1 := 900) (F := fun _ w1 => rdM C9 wr w w1) [vi (xs (i + 1).toNatClampNeg), vi (xs (i + 2).toNatClampNeg)] [.int (xs (i + 1).toNatClampNeg), .int (xs (i + 2).toNatClampNeg)] (fun _ => rfl) dlw_830 wcm_172 rfl rfl (Nat.le_of_ble_eq_true rfl) (by decide) (by omega) (sr_race hm (xs (i + 1).toNatClampNeg) (xs (i + 2).toNatClampNeg) (by omega) (fun _ _ h => h)) ⟨(LJ_room hJ hk q1 hu1 hk1).1, (LJ_room hJ hk q1 hu1 hk1).2⟩ (fun r2 w1 H1 locs1 hI hpm hS => ?_)
  refine lv_istore (lv' := (6, .int r2) :: (5, .int r1) :: [(4, .int i), (3, .ref o0), (2, .ref m0), (1, .ref x0), (0, .ref b)]) hx hb dlw_833 hl (by decide) rfl (fun ls hl => ?_)
  refine lv_goto (tgt := 1187) hx hb dlw_835 (by decide) ?_
  exact kk x1 q1 w1 H1 locs1 ls hI (LJ_next hJ hu1 hk1 hH1 hpm.1.1 (JQ_rd hj hH1 hp1 hpm)) hS (lv_tl (lv_tl hl))
end
section
set_option maxRecDepth 100000 in
set_option maxHeartbeats 4000000 in
theorem lc_20 {p : Program} {e : Env} {s : State} {m : MethodId} {args : Array Value} {below : List Frame} {meth : Method} {c : Code} {H : Heap} {locs : List Loc} {Q : State → Prop} {ls : Array Slot} {A : Nat → Prop} {G : kG} {x w : gd} {q : kP} {x0 m0 o0 b L k : Nat} {xs : Nat → Int32} {i : Int32} (C : gC (wE (kE G)) 1000 yLaw p room_1 s m args meth c A) (hX : va_X b L xs s s.heap) (hbl : b < s.heap.size) (hbA : ¬ A b) (hI : LI G A H x q w x0 m0 o0) (hJ : LJ k x q w) (hk : k < 64) (hS : va_S A s.heap H locs) (v1 : vp_in (i + 1) L) (v2 : vp_in (i + 2) L) (v3 : vp_in (i + 3) L) (hl : lv_has ls 7 [(4, .int i), (3, .ref o0), (2, .ref m0), (1, .ref x0), (0, .ref b)]) (kk : ∀ (x1 : gd) (q1 : kP) (w1 : gd) (H1 : Heap) (locs1 : List Loc) (ls1 : Array Slot), LI G A H1 x1 q1 w1 x0 m0 o0 → LJ (k + 1) x1 q1 w1 → va_S A s.heap H1 locs1 → lv_has ls1 7 [(4, .int i), (3, .ref o0), (2, .ref m0), (1, .ref x0), (0, .ref b)] → W p G.1 e room_1 s m args below meth c H1 locs1 (q1.ce + 200) (q1.sl + 960000) Q (F0 m 1187 ls1 [])) : W p G.1 e room_1 s m args below meth c H locs (q.ce + 200) (q.sl + 960000) Q (F0 m 838 ls []) := by
  have hx := C.1.1
  have hb : c.code = cL_law := C.1.2.1
  obtain ⟨hu, hH, hm, el, b1, b2⟩ := id hJ
  obtain ⟨C9, wr, n9, lm, hj⟩ := el
  have el := JH_J hj
  refine lv_aload_n hx hb dlw_838 rfl (lv_at hl 3 rfl) ?_
  refine lv_aload_n hx hb dlw_839 rfl (lv_at hl 4 rfl) ?_
  refine lv_iload hx hb dlw_840 (lv_at hl 0 rfl) ?_
  refine lv_iconst (v := 1) hx hb dlw_842 (by decide +kernel) ?_
  refine lv_iadd hx hb dlw_843 ?_
  refine va_sld hx hb hX hbl hbA hS (i := i + 1) v1 dlw_844 ?_
  refine lv_aload_n hx hb dlw_845 rfl (lv_at hl 1 rfl) ?_
  refine LI_S C hI hu hS hl.1 [vi (xs (i + 1).toNatClampNeg)] [.int (xs (i + 1).toNatClampNeg)] (fun _ => rfl) dlw_846 wcs_173 rfl (by intro h; cases h) (Nat.le_of_ble_eq_true rfl) (kw_linear (d := 870) hu hH (xs (i + 1).toNatClampNeg)) (LJ_room hJ hk) (fun r1 x1 q1 H1 locs1 hI hu1 hk1 hH1 hp1 hS => ?_)
  refine lv_istore (lv' := (5, .int r1) :: [(4, .int i), (3, .ref o0), (2, .ref m0), (1, .ref x0), (0, .ref b)]) hx hb dlw_849 hl (by decide) rfl (fun ls hl => ?_)
  refine lv_aload_n hx hb dlw_851 rfl (lv_at hl 3 rfl) ?_
  refine lv_aload_n hx hb dlw_852 rfl (lv_at hl 5 rfl) ?_
  refine lv_iload hx hb dlw_853 (lv_at hl 1 rfl) ?_
  refine lv_iconst (v := 1) hx hb dlw_855 (by decide +kernel) ?_
  refine lv_iadd hx hb dlw_856 ?_
  refine va_sld hx hb hX hbl hbA hS (i := i + 1) v1 dlw_857 ?_
  refine LI_M C hI hS hl.1 (restv := []) (d1 := 900) (F := fun _ w1 => rdM C9 wr w w1) [vi (xs (i + 1).toNatClampNeg)] [.int (xs (i + 1).toNatClampNeg)] (fun _ => rfl) dlw_858 wcm_175 rfl rfl (Nat.le_of_ble_eq_true rfl) (by decide) (by omega) (sr_linear hm (xs (i + 1).toNatClampNeg) (by omega) (fun _ _ h => h)) ⟨(LJ_room hJ hk q1 hu1 hk1).1, (LJ_room hJ hk q1 hu1 hk1).2⟩ (fun r2 w1 H1 locs1 hI hpm hS => ?_)
  refine lv_istore (lv' := (6, .int r2) :: (5, .int r1) :: [(4, .int i), (3, .ref o0), (2, .ref m0), (1, .ref x0), (0, .ref b)]) hx hb dlw_861 hl (by decide) rfl (fun ls hl => ?_)
  refine lv_goto (tgt := 1187) hx hb dlw_863 (by decide) ?_
  exact kk x1 q1 w1 H1 locs1 ls hI (LJ_next hJ hu1 hk1 hH1 hpm.1.1 (JQ_rd hj hH1 hp1 hpm)) hS (lv_tl (lv_tl hl))
set_option maxRecDepth 100000 in
set_option maxHeartbeats 4000000 in
theorem lc_21 {p : Program} {e : Env} {s : State} {m : MethodId} {args : Array Value} {below : List Frame} {meth : Method} {c : Code} {H : Heap} {locs : List Loc} {Q : State → Prop} {ls : Array Slot} {A : Nat → Prop} {G : kG} {x w : gd} {q : kP} {x0 m0 o0 b L k : Nat} {xs : Nat → Int32} {i : Int32} (C : gC (wE (kE G)) 1000 yLaw p room_1 s m args meth c A) (hX : va_X b L xs s s.heap) (hbl : b < s.heap.size) (hbA : ¬ A b) (hI : LI G A H x q w x0 m0 o0) (hJ : LJ k x q w) (hk : k < 64) (hS : va_S A s.heap H locs) (v1 : vp_in (i + 1) L) (v2 : vp_in (i + 2) L) (v3 : vp_in (i + 3) L) (hl : lv_has ls 7 [(4, .int i), (3, .ref o0), (2, .ref m0), (1, .ref x0), (0, .ref b)]) (kk : ∀ (x1 : gd) (q1 : kP) (w1 : gd) (H1 : Heap) (locs1 : List Loc) (ls1 : Array Slot), LI G A H1 x1 q1 w1 x0 m0 o0 → LJ (k + 1) x1 q1 w1 → va_S A s.heap H1 locs1 → lv_has ls1 7 [(4, .int i), (3, .ref o0), (2, .ref m0), (1, .ref x0), (0, .ref b)] → W p G.1 e room_1 s m args below meth c H1 locs1 (q1.ce + 200) (q1.sl + 960000) Q (F0 m 1187 ls1 [])) : W p G.1 e room_1 s m args below meth c H locs (q.ce + 200) (q.sl + 960000) Q (F0 m 866 ls []) := by
  have hx := C.1.1
  have hb : c.code = cL_law := C.1.2.1
  obtain ⟨hu, hH, hm, el, b1, b2⟩ := id hJ
  obtain ⟨C9, wr, n9, lm, hj⟩ := el
  have el := JH_J hj
  refine lv_aload_n hx hb dlw_866 rfl (lv_at hl 3 rfl) ?_
  refine lv_aload_n hx hb dlw_867 rfl (lv_at hl 4 rfl) ?_
  refine lv_iload hx hb dlw_868 (lv_at hl 0 rfl) ?_
  refine lv_iconst (v := 1) hx hb dlw_870 (by decide +kernel) ?_
  refine lv_iadd hx hb dlw_871 ?_
  refine va_sld hx hb hX hbl hbA hS (i := i + 1) v1 dlw_872 ?_
  refine lv_aload_n hx hb dlw_873 rfl (lv_at hl 4 rfl) ?_
  refine lv_iload hx hb dlw_874 (lv_at hl 0 rfl) ?_
  refine lv_iconst (v := 2) hx hb dlw_876 (by decide +kernel) ?_
  refine lv_iadd hx hb dlw_877 ?_
  refine va_sld hx hb hX hbl hbA hS (i := i + 2) v2 dlw_878 ?_
  refine lv_aload_n hx hb dlw_879 rfl (lv_at hl 1 rfl) ?_
  refine LI_S C hI hu hS hl.1 [vi (xs (i + 1).toNatClampNeg), vi (xs (i + 2).toNatClampNeg)] [.int (xs (i + 1).toNatClampNeg), .int (xs (i + 2).toNatClampNeg)] (fun _ => rfl) dlw_880 wcs_176 rfl (by intro h; cases h) (Nat.le_of_ble_eq_true rfl) (kw_attempt (d := 870) hj hu hH (xs (i + 1).toNatClampNeg) (xs (i + 2).toNatClampNeg)) (LJ_room hJ hk) (fun r1 x1 q1 H1 locs1 hI hu1 hk1 hH1 hp1 hS => ?_)
  refine lv_istore (lv' := (5, .int r1) :: [(4, .int i), (3, .ref o0), (2, .ref m0), (1, .ref x0), (0, .ref b)]) hx hb dlw_883 hl (by decide) rfl (fun ls hl => ?_)
  refine lv_aload_n hx hb dlw_885 rfl (lv_at hl 3 rfl) ?_
  refine lv_aload_n hx hb dlw_886 rfl (lv_at hl 5 rfl) ?_
  refine lv_iload hx hb dlw_887 (lv_at hl 1 rfl) ?_
  refine lv_iconst (v := 1) hx hb dlw_889 (by decide +kernel) ?_
  refine lv_iadd hx hb dlw_890 ?_
  refine va_sld hx hb hX hbl hbA hS (i := i + 1) v1 dlw_891 ?_
  refine lv_aload_n hx hb dlw_892 rfl (lv_at hl 5 rfl) ?_
  refine lv_iload hx hb dlw_893 (lv_at hl 1 rfl) ?_
  refine lv_iconst (v := 2) hx hb dlw_895 (by decide +kernel) ?_
  refine lv_iadd hx hb dlw_896 ?_
  refine va_sld hx hb hX hbl hbA hS (i := i + 2) v2 dlw_897 ?_
  refine LI_M C hI hS hl.1 (restv := []) (d1 := 900) (F := fun r9 w1 => ansM C9 wr (f1Bg w) (f2At w (xs (i + 1).toNatClampNeg) (xs (i + 2).toNatClampNeg)) (tAq C9 wr w (xs (i + 1).toNatClampNeg) (xs (i + 2).toNatClampNeg)) w r9 w1) [vi (xs (i + 1).toNatClampNeg), vi (xs (i + 2).toNatClampNeg)] [.int (xs (i + 1).toNatClampNeg), .int (xs (i + 2).toNatClampNeg)] (fun _ => rfl) dlw_898 wcm_178 rfl rfl (Nat.le_of_ble_eq_true rfl) (by decide) (by omega) (ma_attempt hj hH hm (xs (i + 1).toNatClampNeg) (xs (i + 2).toNatClampNeg) (by omega) (fun _ _ h1 => h1)) ⟨(LJ_room hJ hk q1 hu1 hk1).1, (LJ_room hJ hk q1 hu1 hk1).2⟩ (fun r2 w1 H1 locs1 hI hpm hS => ?_)
  have hj2 := ja_attempt hj hH1 hp1 hpm
  refine lv_istore (lv' := (6, .int r2) :: (5, .int r1) :: [(4, .int i), (3, .ref o0), (2, .ref m0), (1, .ref x0), (0, .ref b)]) hx hb dlw_901 hl (by decide) rfl (fun ls hl => ?_)
  refine lv_goto (tgt := 1187) hx hb dlw_903 (by decide) ?_
  exact kk x1 q1 w1 H1 locs1 ls hI (LJ_next hJ hu1 hk1 hH1 hpm.1 hj2.1) hS (lv_tl (lv_tl hl))
set_option maxRecDepth 100000 in
set_option maxHeartbeats 4000000 in
theorem lc_22 {p : Program} {e : Env} {s : State} {m : MethodId} {args : Array Value} {below : List Frame} {meth : Method} {c : Code} {H : Heap} {locs : List Loc} {Q : State → Prop} {ls : Array Slot} {A : Nat → Prop} {G : kG} {x w : gd} {q : kP} {x0 m0 o0 b L k : Nat} {xs : Nat → Int32} {i : Int32} (C : gC (wE (kE G)) 1000 yLaw p room_1 s m args meth c A) (hX : va_X b L xs s s.heap) (hbl : b < s.heap.size) (hbA : ¬ A b) (hI : LI G A H x q w x0 m0 o0) (hJ : LJ k x q w) (hk : k < 64) (hS : va_S A s.heap H locs) (v1 : vp_in (i + 1) L) (v2 : vp_in (i + 2) L) (v3 : vp_in (i + 3) L) (hl : lv_has ls 7 [(4, .int i), (3, .ref o0), (2, .ref m0), (1, .ref x0), (0, .ref b)]) (kk : ∀ (x1 : gd) (q1 : kP) (w1 : gd) (H1 : Heap) (locs1 : List Loc) (ls1 : Array Slot), LI G A H1 x1 q1 w1 x0 m0 o0 → LJ (k + 1) x1 q1 w1 → va_S A s.heap H1 locs1 → lv_has ls1 7 [(4, .int i), (3, .ref o0), (2, .ref m0), (1, .ref x0), (0, .ref b)] → W p G.1 e room_1 s m args below meth c H1 locs1 (q1.ce + 200) (q1.sl + 960000) Q (F0 m 1187 ls1 [])) : W p G.1 e room_1 s m args below meth c H locs (q.ce + 200) (q.sl + 960000) Q (F0 m 906 ls []) := by
  have hx := C.1.1
  have hb : c.code = cL_law := C.1.2.1
  obtain ⟨hu, hH, hm, el, b1, b2⟩ := id hJ
  obtain ⟨C9, wr, n9, lm, hj⟩ := el
  have el := JH_J hj
  refine lv_aload_n hx hb dlw_906 rfl (lv_at hl 3 rfl) ?_
  refine lv_aload_n hx hb dlw_907 rfl (lv_at hl 4 rfl) ?_
  refine lv_iload hx hb dlw_908 (lv_at hl 0 rfl) ?_
  refine lv_iconst (v := 1) hx hb dlw_910 (by decide +kernel) ?_
  refine lv_iadd hx hb dlw_911 ?_
  refine va_sld hx hb hX hbl hbA hS (i := i + 1) v1 dlw_912 ?_
  refine lv_aload_n hx hb dlw_913 rfl (lv_at hl 4 rfl) ?_
  refine lv_iload hx hb dlw_914 (lv_at hl 0 rfl) ?_
  refine lv_iconst (v := 2) hx hb dlw_916 (by decide +kernel) ?_
  refine lv_iadd hx hb dlw_917 ?_
  refine va_sld hx hb hX hbl hbA hS (i := i + 2) v2 dlw_918 ?_
  refine lv_aload_n hx hb dlw_919 rfl (lv_at hl 1 rfl) ?_
  refine LI_S C hI hu hS hl.1 [vi (xs (i + 1).toNatClampNeg), vi (xs (i + 2).toNatClampNeg)] [.int (xs (i + 1).toNatClampNeg), .int (xs (i + 2).toNatClampNeg)] (fun _ => rfl) dlw_920 wcs_179 rfl (by intro h; cases h) (Nat.le_of_ble_eq_true rfl) (kw_tried (d := 870) hu hH (xs (i + 1).toNatClampNeg) (xs (i + 2).toNatClampNeg)) (LJ_room hJ hk) (fun r1 x1 q1 H1 locs1 hI hu1 hk1 hH1 hp1 hS => ?_)
  refine lv_istore (lv' := (5, .int r1) :: [(4, .int i), (3, .ref o0), (2, .ref m0), (1, .ref x0), (0, .ref b)]) hx hb dlw_923 hl (by decide) rfl (fun ls hl => ?_)
  refine lv_aload_n hx hb dlw_925 rfl (lv_at hl 3 rfl) ?_
  refine lv_aload_n hx hb dlw_926 rfl (lv_at hl 5 rfl) ?_
  refine lv_iload hx hb dlw_927 (lv_at hl 1 rfl) ?_
  refine lv_iconst (v := 1) hx hb dlw_929 (by decide +kernel) ?_
  refine lv_iadd hx hb dlw_930 ?_
  refine va_sld hx hb hX hbl hbA hS (i := i + 1) v1 dlw_931 ?_
  refine lv_aload_n hx hb dlw_932 rfl (lv_at hl 5 rfl) ?_
  refine lv_iload hx hb dlw_933 (lv_at hl 1 rfl) ?_
  refine lv_iconst (v := 2) hx hb dlw_935 (by decide +kernel) ?_
  refine lv_iadd hx hb dlw_936 ?_
  refine va_sld hx hb hX hbl hbA hS (i := i + 2) v2 dlw_937 ?_
  refine LI_M C hI hS hl.1 (restv := []) (d1 := 900) (F := fun _ w1 => rdM C9 wr w w1) [vi (xs (i + 1).toNatClampNeg), vi (xs (i + 2).toNatClampNeg)] [.int (xs (i + 1).toNatClampNeg), .int (xs (i + 2).toNatClampNeg)] (fun _ => rfl) dlw_938 wcm_181 rfl rfl (Nat.le_of_ble_eq_true rfl) (by decide) (by omega) (sr_tried hm (xs (i + 1).toNatClampNeg) (xs (i + 2).toNatClampNeg) (by omega) (fun _ _ h => h)) ⟨(LJ_room hJ hk q1 hu1 hk1).1, (LJ_room hJ hk q1 hu1 hk1).2⟩ (fun r2 w1 H1 locs1 hI hpm hS => ?_)
  refine lv_istore (lv' := (6, .int r2) :: (5, .int r1) :: [(4, .int i), (3, .ref o0), (2, .ref m0), (1, .ref x0), (0, .ref b)]) hx hb dlw_941 hl (by decide) rfl (fun ls hl => ?_)
  refine lv_goto (tgt := 1187) hx hb dlw_943 (by decide) ?_
  exact kk x1 q1 w1 H1 locs1 ls hI (LJ_next hJ hu1 hk1 hH1 hpm.1.1 (JQ_rd hj hH1 hp1 hpm)) hS (lv_tl (lv_tl hl))
set_option maxRecDepth 100000 in
set_option maxHeartbeats 4000000 in
theorem lc_23 {p : Program} {e : Env} {s : State} {m : MethodId} {args : Array Value} {below : List Frame} {meth : Method} {c : Code} {H : Heap} {locs : List Loc} {Q : State → Prop} {ls : Array Slot} {A : Nat → Prop} {G : kG} {x w : gd} {q : kP} {x0 m0 o0 b L k : Nat} {xs : Nat → Int32} {i : Int32} (C : gC (wE (kE G)) 1000 yLaw p room_1 s m args meth c A) (hX : va_X b L xs s s.heap) (hbl : b < s.heap.size) (hbA : ¬ A b) (hI : LI G A H x q w x0 m0 o0) (hJ : LJ k x q w) (hk : k < 64) (hS : va_S A s.heap H locs) (v1 : vp_in (i + 1) L) (v2 : vp_in (i + 2) L) (v3 : vp_in (i + 3) L) (hl : lv_has ls 7 [(4, .int i), (3, .ref o0), (2, .ref m0), (1, .ref x0), (0, .ref b)]) (kk : ∀ (x1 : gd) (q1 : kP) (w1 : gd) (H1 : Heap) (locs1 : List Loc) (ls1 : Array Slot), LI G A H1 x1 q1 w1 x0 m0 o0 → LJ (k + 1) x1 q1 w1 → va_S A s.heap H1 locs1 → lv_has ls1 7 [(4, .int i), (3, .ref o0), (2, .ref m0), (1, .ref x0), (0, .ref b)] → W p G.1 e room_1 s m args below meth c H1 locs1 (q1.ce + 200) (q1.sl + 960000) Q (F0 m 1187 ls1 [])) : W p G.1 e room_1 s m args below meth c H locs (q.ce + 200) (q.sl + 960000) Q (F0 m 946 ls []) := by
  have hx := C.1.1
  have hb : c.code = cL_law := C.1.2.1
  obtain ⟨hu, hH, hm, el, b1, b2⟩ := id hJ
  obtain ⟨C9, wr, n9, lm, hj⟩ := el
  have el := JH_J hj
  refine lv_aload_n hx hb dlw_946 rfl (lv_at hl 3 rfl) ?_
  refine lv_aload_n hx hb dlw_947 rfl (lv_at hl 4 rfl) ?_
  refine lv_iload hx hb dlw_948 (lv_at hl 0 rfl) ?_
  refine lv_iconst (v := 1) hx hb dlw_950 (by decide +kernel) ?_
  refine lv_iadd hx hb dlw_951 ?_
  refine va_sld hx hb hX hbl hbA hS (i := i + 1) v1 dlw_952 ?_
  refine lv_aload_n hx hb dlw_953 rfl (lv_at hl 4 rfl) ?_
  refine lv_iload hx hb dlw_954 (lv_at hl 0 rfl) ?_
  refine lv_iconst (v := 2) hx hb dlw_956 (by decide +kernel) ?_
  refine lv_iadd hx hb dlw_957 ?_
  refine va_sld hx hb hX hbl hbA hS (i := i + 2) v2 dlw_958 ?_
  refine lv_aload_n hx hb dlw_959 rfl (lv_at hl 4 rfl) ?_
  refine lv_iload hx hb dlw_960 (lv_at hl 0 rfl) ?_
  refine lv_iconst (v := 3) hx hb dlw_962 (by decide +kernel) ?_
  refine lv_iadd hx hb dlw_963 ?_
  refine va_sld hx hb hX hbl hbA hS (i := i + 3) v3 dlw_964 ?_
  refine lv_aload_n hx hb dlw_965 rfl (lv_at hl 1 rfl) ?_
  refine LI_S C hI hu hS hl.1 [vi (xs (i + 1).toNatClampNeg), vi (xs (i + 2).toNatClampNeg), vi (xs (i + 3).toNatClampNeg)] [.int (xs (i + 1).toNatClampNeg), .int (xs (i + 2).toNatClampNeg), .int (xs (i + 3).toNatClampNeg)] (fun _ => rfl) dlw_966 wcs_182 rfl (by intro h; cases h) (Nat.le_of_ble_eq_true rfl) (kw_outcome (d := 870) hu hH (xs (i + 1).toNatClampNeg) (xs (i + 2).toNatClampNeg) (xs (i + 3).toNatClampNeg)) (LJ_room hJ hk) (fun r1 x1 q1 H1 locs1 hI hu1 hk1 hH1 hp1 hS => ?_)
  refine lv_istore (lv' := (5, .int r1) :: [(4, .int i), (3, .ref o0), (2, .ref m0), (1, .ref x0), (0, .ref b)]) hx hb dlw_969 hl (by decide) rfl (fun ls hl => ?_)
  refine lv_aload_n hx hb dlw_971 rfl (lv_at hl 3 rfl) ?_
  refine lv_aload_n hx hb dlw_972 rfl (lv_at hl 5 rfl) ?_
  refine lv_iload hx hb dlw_973 (lv_at hl 1 rfl) ?_
  refine lv_iconst (v := 1) hx hb dlw_975 (by decide +kernel) ?_
  refine lv_iadd hx hb dlw_976 ?_
  refine va_sld hx hb hX hbl hbA hS (i := i + 1) v1 dlw_977 ?_
  refine lv_aload_n hx hb dlw_978 rfl (lv_at hl 5 rfl) ?_
  refine lv_iload hx hb dlw_979 (lv_at hl 1 rfl) ?_
  refine lv_iconst (v := 2) hx hb dlw_981 (by decide +kernel) ?_
  refine lv_iadd hx hb dlw_982 ?_
  refine va_sld hx hb hX hbl hbA hS (i := i + 2) v2 dlw_983 ?_
  refine lv_aload_n hx hb dlw_984 rfl (lv_at hl 5 rfl) ?_
  refine lv_iload hx hb dlw_985 (lv_at hl 1 rfl) ?_
  refine lv_iconst (v := 3) hx hb dlw_987 (by decide +kernel) ?_
  refine lv_iadd hx hb dlw_988 ?_
  refine va_sld hx hb hX hbl hbA hS (i := i + 3) v3 dlw_989 ?_
  refine LI_M C hI hS hl.1 (restv := []) (d1 := 900) (F := fun _ w1 => rdM C9 wr w w1) [vi (xs (i + 1).toNatClampNeg), vi (xs (i + 2).toNatClampNeg), vi (xs (i + 3).toNatClampNeg)] [.int (xs (i + 1).toNatClampNeg), .int (xs (i + 2).toNatClampNeg), .int (xs (i + 3).toNatClampNeg)] (fun _ => rfl) dlw_990 wcm_185 rfl rfl (Nat.le_of_ble_eq_true rfl) (by decide) (by omega) (sr_outcome hm (xs (i + 1).toNatClampNeg) (xs (i + 2).toNatClampNeg) (xs (i + 3).toNatClampNeg) (by omega) (fun _ _ h => h)) ⟨(LJ_room hJ hk q1 hu1 hk1).1, (LJ_room hJ hk q1 hu1 hk1).2⟩ (fun r2 w1 H1 locs1 hI hpm hS => ?_)
  refine lv_istore (lv' := (6, .int r2) :: (5, .int r1) :: [(4, .int i), (3, .ref o0), (2, .ref m0), (1, .ref x0), (0, .ref b)]) hx hb dlw_993 hl (by decide) rfl (fun ls hl => ?_)
  refine lv_goto (tgt := 1187) hx hb dlw_995 (by decide) ?_
  exact kk x1 q1 w1 H1 locs1 ls hI (LJ_next hJ hu1 hk1 hH1 hpm.1.1 (JQ_rd hj hH1 hp1 hpm)) hS (lv_tl (lv_tl hl))
set_option maxRecDepth 100000 in
set_option maxHeartbeats 4000000 in
theorem lc_24 {p : Program} {e : Env} {s : State} {m : MethodId} {args : Array Value} {below : List Frame} {meth : Method} {c : Code} {H : Heap} {locs : List Loc} {Q : State → Prop} {ls : Array Slot} {A : Nat → Prop} {G : kG} {x w : gd} {q : kP} {x0 m0 o0 b L k : Nat} {xs : Nat → Int32} {i : Int32} (C : gC (wE (kE G)) 1000 yLaw p room_1 s m args meth c A) (hX : va_X b L xs s s.heap) (hbl : b < s.heap.size) (hbA : ¬ A b) (hI : LI G A H x q w x0 m0 o0) (hJ : LJ k x q w) (hk : k < 64) (hS : va_S A s.heap H locs) (v1 : vp_in (i + 1) L) (v2 : vp_in (i + 2) L) (v3 : vp_in (i + 3) L) (hl : lv_has ls 7 [(4, .int i), (3, .ref o0), (2, .ref m0), (1, .ref x0), (0, .ref b)]) (kk : ∀ (x1 : gd) (q1 : kP) (w1 : gd) (H1 : Heap) (locs1 : List Loc) (ls1 : Array Slot), LI G A H1 x1 q1 w1 x0 m0 o0 → LJ (k + 1) x1 q1 w1 → va_S A s.heap H1 locs1 → lv_has ls1 7 [(4, .int i), (3, .ref o0), (2, .ref m0), (1, .ref x0), (0, .ref b)] → W p G.1 e room_1 s m args below meth c H1 locs1 (q1.ce + 200) (q1.sl + 960000) Q (F0 m 1187 ls1 [])) : W p G.1 e room_1 s m args below meth c H locs (q.ce + 200) (q.sl + 960000) Q (F0 m 998 ls []) := by
  have hx := C.1.1
  have hb : c.code = cL_law := C.1.2.1
  obtain ⟨hu, hH, hm, el, b1, b2⟩ := id hJ
  obtain ⟨C9, wr, n9, lm, hj⟩ := el
  have el := JH_J hj
  refine lv_aload_n hx hb dlw_998 rfl (lv_at hl 3 rfl) ?_
  refine lv_aload_n hx hb dlw_999 rfl (lv_at hl 4 rfl) ?_
  refine lv_iload hx hb dlw_1000 (lv_at hl 0 rfl) ?_
  refine lv_iconst (v := 1) hx hb dlw_1002 (by decide +kernel) ?_
  refine lv_iadd hx hb dlw_1003 ?_
  refine va_sld hx hb hX hbl hbA hS (i := i + 1) v1 dlw_1004 ?_
  refine lv_aload_n hx hb dlw_1005 rfl (lv_at hl 4 rfl) ?_
  refine lv_iload hx hb dlw_1006 (lv_at hl 0 rfl) ?_
  refine lv_iconst (v := 2) hx hb dlw_1008 (by decide +kernel) ?_
  refine lv_iadd hx hb dlw_1009 ?_
  refine va_sld hx hb hX hbl hbA hS (i := i + 2) v2 dlw_1010 ?_
  refine lv_aload_n hx hb dlw_1011 rfl (lv_at hl 1 rfl) ?_
  refine LI_S C hI hu hS hl.1 [vi (xs (i + 1).toNatClampNeg), vi (xs (i + 2).toNatClampNeg)] [.int (xs (i + 1).toNatClampNeg), .int (xs (i + 2).toNatClampNeg)] (fun _ => rfl) dlw_1012 wcs_186 rfl (by intro h; cases h) (Nat.le_of_ble_eq_true rfl) (kw_finding (d := 870) hj hu hH (xs (i + 1).toNatClampNeg) (xs (i + 2).toNatClampNeg)) (LJ_room hJ hk) (fun r1 x1 q1 H1 locs1 hI hu1 hk1 hH1 hp1 hS => ?_)
  refine lv_istore (lv' := (5, .int r1) :: [(4, .int i), (3, .ref o0), (2, .ref m0), (1, .ref x0), (0, .ref b)]) hx hb dlw_1015 hl (by decide) rfl (fun ls hl => ?_)
  refine lv_aload_n hx hb dlw_1017 rfl (lv_at hl 3 rfl) ?_
  refine lv_aload_n hx hb dlw_1018 rfl (lv_at hl 5 rfl) ?_
  refine lv_iload hx hb dlw_1019 (lv_at hl 1 rfl) ?_
  refine lv_iconst (v := 1) hx hb dlw_1021 (by decide +kernel) ?_
  refine lv_iadd hx hb dlw_1022 ?_
  refine va_sld hx hb hX hbl hbA hS (i := i + 1) v1 dlw_1023 ?_
  refine lv_aload_n hx hb dlw_1024 rfl (lv_at hl 5 rfl) ?_
  refine lv_iload hx hb dlw_1025 (lv_at hl 1 rfl) ?_
  refine lv_iconst (v := 2) hx hb dlw_1027 (by decide +kernel) ?_
  refine lv_iadd hx hb dlw_1028 ?_
  refine va_sld hx hb hX hbl hbA hS (i := i + 2) v2 dlw_1029 ?_
  refine LI_M C hI hS hl.1 (restv := []) (d1 := 900) (F := fun r9 w1 => ansM C9 wr (e1Sh (xs (i + 1).toNatClampNeg) (xs (i + 2).toNatClampNeg)) (False) (tFi C9 lm wr w (xs (i + 1).toNatClampNeg) (xs (i + 2).toNatClampNeg)) w r9 w1) [vi (xs (i + 1).toNatClampNeg), vi (xs (i + 2).toNatClampNeg)] [.int (xs (i + 1).toNatClampNeg), .int (xs (i + 2).toNatClampNeg)] (fun _ => rfl) dlw_1030 wcm_188 rfl rfl (Nat.le_of_ble_eq_true rfl) (by decide) (by omega) (ma_finding hj hH hm (xs (i + 1).toNatClampNeg) (xs (i + 2).toNatClampNeg) (by omega) (fun _ _ h1 => h1)) ⟨(LJ_room hJ hk q1 hu1 hk1).1, (LJ_room hJ hk q1 hu1 hk1).2⟩ (fun r2 w1 H1 locs1 hI hpm hS => ?_)
  have hj2 := ja_finding hj hH1 hp1 hpm
  refine lv_istore (lv' := (6, .int r2) :: (5, .int r1) :: [(4, .int i), (3, .ref o0), (2, .ref m0), (1, .ref x0), (0, .ref b)]) hx hb dlw_1033 hl (by decide) rfl (fun ls hl => ?_)
  refine lv_aload_n hx hb dlw_1035 rfl (lv_at hl 4 rfl) ?_
  refine LI_M C hI hS hl.1 (restv := []) (d1 := 900) (F := fun r3 w2 => r3 = w1.1 0 0 ∧ w2 = w1) [] [] (fun _ => rfl) dlw_1036 wcm_189 rfl rfl (Nat.le_of_ble_eq_true rfl) (by decide) (by omega) (sp_thrown (d := 899) ⟨rfl, rfl⟩) ⟨(LJ_room hJ hk q1 hu1 hk1).1, (LJ_room hJ hk q1 hu1 hk1).2⟩ (fun r3 w2 H2 locs2 hI2 hp3 hS2 => ?_)
  obtain ⟨h3, e2⟩ := hp3
  rw [e2] at hI2
  have hag : (r1 = 0 ∧ r3 = 0 ∧ x1.2 299 (0 : Int32).toNatClampNeg = r2.toInt64) ∨ (¬ r1 = 0 ∧ r3 = r1) := by
    rcases hj2.2 with ⟨z1, z2, z3⟩ | ⟨z1, z2⟩
    · exact Or.inl ⟨z1, h3.trans z2, z3⟩
    · exact Or.inr ⟨z1, h3.trans z2⟩
  refine lv_iload hx hb dlw_1039 (lv_at hl 1 rfl) ?_
  refine lv_icmp_eq (tgt := 1046) hx hb dlw_1041 (by decide) (fun _ => ?_) (fun c9 => absurd (show r3 = r1 by rcases hag with h | h; exact h.2.1.trans h.1.symm; exact h.2) c9)
  refine lv_iload hx hb dlw_1046 (lv_at hl 1 rfl) ?_
  refine lv_if_ne (tgt := 1063) hx hb dlw_1048 (by decide) (fun _ => ?_) (fun c0 => ?_)
  · skip
    refine lv_goto (tgt := 1187) hx hb dlw_1063 (by decide) ?_
    exact kk x1 q1 w1 H2 locs2 ls hI2 (LJ_next hJ hu1 hk1 hH1 hpm.1 hj2.1) hS2 (lv_tl (lv_tl hl))
  · have hok := hag.resolve_right (fun h => absurd c0 h.1)
    refine lv_aload_n hx hb dlw_1051 rfl (lv_at hl 3 rfl) ?_
    refine lv_iconst (v := 0) hx hb dlw_1052 (by decide +kernel) ?_
    refine LI_O C hI2 dlw_1053 ?_
    refine lv_iload hx hb dlw_1054 (lv_at hl 0 rfl) ?_
    refine lv_i2l (v := r2.toInt64) hx hb dlw_1056 rfl ?_
    refine W.lcmp hx hb dlw_1057 ?_
    refine lv_if_eq (tgt := 1063) hx hb dlw_1058 (by decide) (fun _ => ?_) (fun c9 => absurd (by rw [hok.2.2]; exact lg_self _) c9)
    refine lv_goto (tgt := 1187) hx hb dlw_1063 (by decide) ?_
    exact kk x1 q1 w1 H2 locs2 ls hI2 (LJ_next hJ hu1 hk1 hH1 hpm.1 hj2.1) hS2 (lv_tl (lv_tl hl))
set_option maxRecDepth 100000 in
set_option maxHeartbeats 4000000 in
theorem lc_25 {p : Program} {e : Env} {s : State} {m : MethodId} {args : Array Value} {below : List Frame} {meth : Method} {c : Code} {H : Heap} {locs : List Loc} {Q : State → Prop} {ls : Array Slot} {A : Nat → Prop} {G : kG} {x w : gd} {q : kP} {x0 m0 o0 b L k : Nat} {xs : Nat → Int32} {i : Int32} (C : gC (wE (kE G)) 1000 yLaw p room_1 s m args meth c A) (hX : va_X b L xs s s.heap) (hbl : b < s.heap.size) (hbA : ¬ A b) (hI : LI G A H x q w x0 m0 o0) (hJ : LJ k x q w) (hk : k < 64) (hS : va_S A s.heap H locs) (v1 : vp_in (i + 1) L) (v2 : vp_in (i + 2) L) (v3 : vp_in (i + 3) L) (hl : lv_has ls 7 [(4, .int i), (3, .ref o0), (2, .ref m0), (1, .ref x0), (0, .ref b)]) (kk : ∀ (x1 : gd) (q1 : kP) (w1 : gd) (H1 : Heap) (locs1 : List Loc) (ls1 : Array Slot), LI G A H1 x1 q1 w1 x0 m0 o0 → LJ (k + 1) x1 q1 w1 → va_S A s.heap H1 locs1 → lv_has ls1 7 [(4, .int i), (3, .ref o0), (2, .ref m0), (1, .ref x0), (0, .ref b)] → W p G.1 e room_1 s m args below meth c H1 locs1 (q1.ce + 200) (q1.sl + 960000) Q (F0 m 1187 ls1 [])) : W p G.1 e room_1 s m args below meth c H locs (q.ce + 200) (q.sl + 960000) Q (F0 m 1066 ls []) := by
  have hx := C.1.1
  have hb : c.code = cL_law := C.1.2.1
  obtain ⟨hu, hH, hm, el, b1, b2⟩ := id hJ
  obtain ⟨C9, wr, n9, lm, hj⟩ := el
  have el := JH_J hj
  refine lv_aload_n hx hb dlw_1066 rfl (lv_at hl 3 rfl) ?_
  refine lv_aload_n hx hb dlw_1067 rfl (lv_at hl 4 rfl) ?_
  refine lv_iload hx hb dlw_1068 (lv_at hl 0 rfl) ?_
  refine lv_iconst (v := 1) hx hb dlw_1070 (by decide +kernel) ?_
  refine lv_iadd hx hb dlw_1071 ?_
  refine va_sld hx hb hX hbl hbA hS (i := i + 1) v1 dlw_1072 ?_
  refine lv_aload_n hx hb dlw_1073 rfl (lv_at hl 4 rfl) ?_
  refine lv_iload hx hb dlw_1074 (lv_at hl 0 rfl) ?_
  refine lv_iconst (v := 2) hx hb dlw_1076 (by decide +kernel) ?_
  refine lv_iadd hx hb dlw_1077 ?_
  refine va_sld hx hb hX hbl hbA hS (i := i + 2) v2 dlw_1078 ?_
  refine lv_aload_n hx hb dlw_1079 rfl (lv_at hl 1 rfl) ?_
  refine LI_S C hI hu hS hl.1 [vi (xs (i + 1).toNatClampNeg), vi (xs (i + 2).toNatClampNeg)] [.int (xs (i + 1).toNatClampNeg), .int (xs (i + 2).toNatClampNeg)] (fun _ => rfl) dlw_1080 wcs_192 rfl (by intro h; cases h) (Nat.le_of_ble_eq_true rfl) (kw_show (d := 870) hj hu hH (xs (i + 1).toNatClampNeg) (xs (i + 2).toNatClampNeg)) (LJ_room hJ hk) (fun r1 x1 q1 H1 locs1 hI hu1 hk1 hH1 hp1 hS => ?_)
  refine lv_istore (lv' := (5, .int r1) :: [(4, .int i), (3, .ref o0), (2, .ref m0), (1, .ref x0), (0, .ref b)]) hx hb dlw_1083 hl (by decide) rfl (fun ls hl => ?_)
  refine lv_aload_n hx hb dlw_1085 rfl (lv_at hl 3 rfl) ?_
  refine lv_aload_n hx hb dlw_1086 rfl (lv_at hl 5 rfl) ?_
  refine lv_iload hx hb dlw_1087 (lv_at hl 1 rfl) ?_
  refine lv_iconst (v := 1) hx hb dlw_1089 (by decide +kernel) ?_
  refine lv_iadd hx hb dlw_1090 ?_
  refine va_sld hx hb hX hbl hbA hS (i := i + 1) v1 dlw_1091 ?_
  refine lv_aload_n hx hb dlw_1092 rfl (lv_at hl 5 rfl) ?_
  refine lv_iload hx hb dlw_1093 (lv_at hl 1 rfl) ?_
  refine lv_iconst (v := 2) hx hb dlw_1095 (by decide +kernel) ?_
  refine lv_iadd hx hb dlw_1096 ?_
  refine va_sld hx hb hX hbl hbA hS (i := i + 2) v2 dlw_1097 ?_
  refine LI_M C hI hS hl.1 (restv := []) (d1 := 900) (F := fun r9 w1 => ansM C9 wr (e1Sh (xs (i + 1).toNatClampNeg) (xs (i + 2).toNatClampNeg)) (f2Sh C9 lm w (xs (i + 1).toNatClampNeg) (xs (i + 2).toNatClampNeg)) (tSh C9 lm w (xs (i + 1).toNatClampNeg) (xs (i + 2).toNatClampNeg)) w r9 w1) [vi (xs (i + 1).toNatClampNeg), vi (xs (i + 2).toNatClampNeg)] [.int (xs (i + 1).toNatClampNeg), .int (xs (i + 2).toNatClampNeg)] (fun _ => rfl) dlw_1098 wcm_194 rfl rfl (Nat.le_of_ble_eq_true rfl) (by decide) (by omega) (ma_show hj hH hm (xs (i + 1).toNatClampNeg) (xs (i + 2).toNatClampNeg) (by omega) (fun _ _ h1 => h1)) ⟨(LJ_room hJ hk q1 hu1 hk1).1, (LJ_room hJ hk q1 hu1 hk1).2⟩ (fun r2 w1 H1 locs1 hI hpm hS => ?_)
  have hj2 := ja_show hj hH1 hp1 hpm
  refine lv_istore (lv' := (6, .int r2) :: (5, .int r1) :: [(4, .int i), (3, .ref o0), (2, .ref m0), (1, .ref x0), (0, .ref b)]) hx hb dlw_1101 hl (by decide) rfl (fun ls hl => ?_)
  refine lv_goto (tgt := 1187) hx hb dlw_1103 (by decide) ?_
  exact kk x1 q1 w1 H1 locs1 ls hI (LJ_next hJ hu1 hk1 hH1 hpm.1 hj2.1) hS (lv_tl (lv_tl hl))
set_option maxRecDepth 100000 in
set_option maxHeartbeats 4000000 in
theorem lc_26 {p : Program} {e : Env} {s : State} {m : MethodId} {args : Array Value} {below : List Frame} {meth : Method} {c : Code} {H : Heap} {locs : List Loc} {Q : State → Prop} {ls : Array Slot} {A : Nat → Prop} {G : kG} {x w : gd} {q : kP} {x0 m0 o0 b L k : Nat} {xs : Nat → Int32} {i : Int32} (C : gC (wE (kE G)) 1000 yLaw p room_1 s m args meth c A) (hX : va_X b L xs s s.heap) (hbl : b < s.heap.size) (hbA : ¬ A b) (hI : LI G A H x q w x0 m0 o0) (hJ : LJ k x q w) (hk : k < 64) (hS : va_S A s.heap H locs) (v1 : vp_in (i + 1) L) (v2 : vp_in (i + 2) L) (v3 : vp_in (i + 3) L) (hl : lv_has ls 7 [(4, .int i), (3, .ref o0), (2, .ref m0), (1, .ref x0), (0, .ref b)]) (kk : ∀ (x1 : gd) (q1 : kP) (w1 : gd) (H1 : Heap) (locs1 : List Loc) (ls1 : Array Slot), LI G A H1 x1 q1 w1 x0 m0 o0 → LJ (k + 1) x1 q1 w1 → va_S A s.heap H1 locs1 → lv_has ls1 7 [(4, .int i), (3, .ref o0), (2, .ref m0), (1, .ref x0), (0, .ref b)] → W p G.1 e room_1 s m args below meth c H1 locs1 (q1.ce + 200) (q1.sl + 960000) Q (F0 m 1187 ls1 [])) : W p G.1 e room_1 s m args below meth c H locs (q.ce + 200) (q.sl + 960000) Q (F0 m 1106 ls []) := by
  have hx := C.1.1
  have hb : c.code = cL_law := C.1.2.1
  obtain ⟨hu, hH, hm, el, b1, b2⟩ := id hJ
  obtain ⟨C9, wr, n9, lm, hj⟩ := el
  have el := JH_J hj
  refine lv_aload_n hx hb dlw_1106 rfl (lv_at hl 3 rfl) ?_
  refine lv_aload_n hx hb dlw_1107 rfl (lv_at hl 4 rfl) ?_
  refine lv_iload hx hb dlw_1108 (lv_at hl 0 rfl) ?_
  refine lv_iconst (v := 1) hx hb dlw_1110 (by decide +kernel) ?_
  refine lv_iadd hx hb dlw_1111 ?_
  refine va_sld hx hb hX hbl hbA hS (i := i + 1) v1 dlw_1112 ?_
  refine lv_aload_n hx hb dlw_1113 rfl (lv_at hl 4 rfl) ?_
  refine lv_iload hx hb dlw_1114 (lv_at hl 0 rfl) ?_
  refine lv_iconst (v := 2) hx hb dlw_1116 (by decide +kernel) ?_
  refine lv_iadd hx hb dlw_1117 ?_
  refine va_sld hx hb hX hbl hbA hS (i := i + 2) v2 dlw_1118 ?_
  refine lv_aload_n hx hb dlw_1119 rfl (lv_at hl 1 rfl) ?_
  refine LI_S C hI hu hS hl.1 [vi (xs (i + 1).toNatClampNeg), vi (xs (i + 2).toNatClampNeg)] [.int (xs (i + 1).toNatClampNeg), .int (xs (i + 2).toNatClampNeg)] (fun _ => rfl) dlw_1120 wcs_195 rfl (by intro h; cases h) (Nat.le_of_ble_eq_true rfl) (kw_common (d := 870) hu hH (xs (i + 1).toNatClampNeg) (xs (i + 2).toNatClampNeg)) (LJ_room hJ hk) (fun r1 x1 q1 H1 locs1 hI hu1 hk1 hH1 hp1 hS => ?_)
  refine lv_istore (lv' := (5, .int r1) :: [(4, .int i), (3, .ref o0), (2, .ref m0), (1, .ref x0), (0, .ref b)]) hx hb dlw_1123 hl (by decide) rfl (fun ls hl => ?_)
  refine lv_aload_n hx hb dlw_1125 rfl (lv_at hl 3 rfl) ?_
  refine lv_aload_n hx hb dlw_1126 rfl (lv_at hl 5 rfl) ?_
  refine lv_iload hx hb dlw_1127 (lv_at hl 1 rfl) ?_
  refine lv_iconst (v := 1) hx hb dlw_1129 (by decide +kernel) ?_
  refine lv_iadd hx hb dlw_1130 ?_
  refine va_sld hx hb hX hbl hbA hS (i := i + 1) v1 dlw_1131 ?_
  refine lv_aload_n hx hb dlw_1132 rfl (lv_at hl 5 rfl) ?_
  refine lv_iload hx hb dlw_1133 (lv_at hl 1 rfl) ?_
  refine lv_iconst (v := 2) hx hb dlw_1135 (by decide +kernel) ?_
  refine lv_iadd hx hb dlw_1136 ?_
  refine va_sld hx hb hX hbl hbA hS (i := i + 2) v2 dlw_1137 ?_
  refine LI_M C hI hS hl.1 (restv := []) (d1 := 900) (F := fun _ w1 => rdM C9 wr w w1) [vi (xs (i + 1).toNatClampNeg), vi (xs (i + 2).toNatClampNeg)] [.int (xs (i + 1).toNatClampNeg), .int (xs (i + 2).toNatClampNeg)] (fun _ => rfl) dlw_1138 wcm_197 rfl rfl (Nat.le_of_ble_eq_true rfl) (by decide) (by omega) (sr_common hm (xs (i + 1).toNatClampNeg) (xs (i + 2).toNatClampNeg) (by omega) (fun _ _ h => h)) ⟨(LJ_room hJ hk q1 hu1 hk1).1, (LJ_room hJ hk q1 hu1 hk1).2⟩ (fun r2 w1 H1 locs1 hI hpm hS => ?_)
  refine lv_istore (lv' := (6, .int r2) :: (5, .int r1) :: [(4, .int i), (3, .ref o0), (2, .ref m0), (1, .ref x0), (0, .ref b)]) hx hb dlw_1141 hl (by decide) rfl (fun ls hl => ?_)
  refine lv_goto (tgt := 1187) hx hb dlw_1143 (by decide) ?_
  exact kk x1 q1 w1 H1 locs1 ls hI (LJ_next hJ hu1 hk1 hH1 hpm.1.1 (JQ_rd hj hH1 hp1 hpm)) hS (lv_tl (lv_tl hl))
set_option maxRecDepth 100000 in
set_option maxHeartbeats 4000000 in
theorem lc_27 {p : Program} {e : Env} {s : State} {m : MethodId} {args : Array Value} {below : List Frame} {meth : Method} {c : Code} {H : Heap} {locs : List Loc} {Q : State → Prop} {ls : Array Slot} {A : Nat → Prop} {G : kG} {x w : gd} {q : kP} {x0 m0 o0 b L k : Nat} {xs : Nat → Int32} {i : Int32} (C : gC (wE (kE G)) 1000 yLaw p room_1 s m args meth c A) (hX : va_X b L xs s s.heap) (hbl : b < s.heap.size) (hbA : ¬ A b) (hI : LI G A H x q w x0 m0 o0) (hJ : LJ k x q w) (hk : k < 64) (hS : va_S A s.heap H locs) (v1 : vp_in (i + 1) L) (v2 : vp_in (i + 2) L) (v3 : vp_in (i + 3) L) (hl : lv_has ls 7 [(4, .int i), (3, .ref o0), (2, .ref m0), (1, .ref x0), (0, .ref b)]) (kk : ∀ (x1 : gd) (q1 : kP) (w1 : gd) (H1 : Heap) (locs1 : List Loc) (ls1 : Array Slot), LI G A H1 x1 q1 w1 x0 m0 o0 → LJ (k + 1) x1 q1 w1 → va_S A s.heap H1 locs1 → lv_has ls1 7 [(4, .int i), (3, .ref o0), (2, .ref m0), (1, .ref x0), (0, .ref b)] → W p G.1 e room_1 s m args below meth c H1 locs1 (q1.ce + 200) (q1.sl + 960000) Q (F0 m 1187 ls1 [])) : W p G.1 e room_1 s m args below meth c H locs (q.ce + 200) (q.sl + 960000) Q (F0 m 1146 ls []) := by
  have hx := C.1.1
  have hb : c.code = cL_law := C.1.2.1
  obtain ⟨hu, hH, hm, el, b1, b2⟩ := id hJ
  obtain ⟨C9, wr, n9, lm, hj⟩ := el
  have el := JH_J hj
  refine lv_aload_n hx hb dlw_1146 rfl (lv_at hl 3 rfl) ?_
  refine lv_aload_n hx hb dlw_1147 rfl (lv_at hl 4 rfl) ?_
  refine lv_iload hx hb dlw_1148 (lv_at hl 0 rfl) ?_
  refine lv_iconst (v := 1) hx hb dlw_1150 (by decide +kernel) ?_
  refine lv_iadd hx hb dlw_1151 ?_
  refine va_sld hx hb hX hbl hbA hS (i := i + 1) v1 dlw_1152 ?_
  refine lv_aload_n hx hb dlw_1153 rfl (lv_at hl 1 rfl) ?_
  refine LI_S C hI hu hS hl.1 [vi (xs (i + 1).toNatClampNeg)] [.int (xs (i + 1).toNatClampNeg)] (fun _ => rfl) dlw_1154 wcs_198 rfl (by intro h; cases h) (Nat.le_of_ble_eq_true rfl) (kw_ring (d := 870) hu hH (xs (i + 1).toNatClampNeg)) (LJ_room hJ hk) (fun r1 x1 q1 H1 locs1 hI hu1 hk1 hH1 hp1 hS => ?_)
  refine lv_istore (lv' := (5, .int r1) :: [(4, .int i), (3, .ref o0), (2, .ref m0), (1, .ref x0), (0, .ref b)]) hx hb dlw_1157 hl (by decide) rfl (fun ls hl => ?_)
  refine lv_aload_n hx hb dlw_1159 rfl (lv_at hl 3 rfl) ?_
  refine lv_aload_n hx hb dlw_1160 rfl (lv_at hl 5 rfl) ?_
  refine lv_iload hx hb dlw_1161 (lv_at hl 1 rfl) ?_
  refine lv_iconst (v := 1) hx hb dlw_1163 (by decide +kernel) ?_
  refine lv_iadd hx hb dlw_1164 ?_
  refine va_sld hx hb hX hbl hbA hS (i := i + 1) v1 dlw_1165 ?_
  refine LI_M C hI hS hl.1 (restv := []) (d1 := 900) (F := fun _ w1 => rdM C9 wr w w1) [vi (xs (i + 1).toNatClampNeg)] [.int (xs (i + 1).toNatClampNeg)] (fun _ => rfl) dlw_1166 wcm_200 rfl rfl (Nat.le_of_ble_eq_true rfl) (by decide) (by omega) (sr_ring hm (xs (i + 1).toNatClampNeg) (by omega) (fun _ _ h => h)) ⟨(LJ_room hJ hk q1 hu1 hk1).1, (LJ_room hJ hk q1 hu1 hk1).2⟩ (fun r2 w1 H1 locs1 hI hpm hS => ?_)
  refine lv_istore (lv' := (6, .int r2) :: (5, .int r1) :: [(4, .int i), (3, .ref o0), (2, .ref m0), (1, .ref x0), (0, .ref b)]) hx hb dlw_1169 hl (by decide) rfl (fun ls hl => ?_)
  refine lv_goto (tgt := 1187) hx hb dlw_1171 (by decide) ?_
  exact kk x1 q1 w1 H1 locs1 ls hI (LJ_next hJ hu1 hk1 hH1 hpm.1.1 (JQ_rd hj hH1 hp1 hpm)) hS (lv_tl (lv_tl hl))
set_option maxRecDepth 100000 in
set_option maxHeartbeats 4000000 in
theorem lc_28 {p : Program} {e : Env} {s : State} {m : MethodId} {args : Array Value} {below : List Frame} {meth : Method} {c : Code} {H : Heap} {locs : List Loc} {Q : State → Prop} {ls : Array Slot} {A : Nat → Prop} {G : kG} {x w : gd} {q : kP} {x0 m0 o0 b L k : Nat} {xs : Nat → Int32} {i : Int32} (C : gC (wE (kE G)) 1000 yLaw p room_1 s m args meth c A) (hX : va_X b L xs s s.heap) (hbl : b < s.heap.size) (hbA : ¬ A b) (hI : LI G A H x q w x0 m0 o0) (hJ : LJ k x q w) (hk : k < 64) (hS : va_S A s.heap H locs) (v1 : vp_in (i + 1) L) (v2 : vp_in (i + 2) L) (v3 : vp_in (i + 3) L) (hl : lv_has ls 7 [(4, .int i), (3, .ref o0), (2, .ref m0), (1, .ref x0), (0, .ref b)]) (kk : ∀ (x1 : gd) (q1 : kP) (w1 : gd) (H1 : Heap) (locs1 : List Loc) (ls1 : Array Slot), LI G A H1 x1 q1 w1 x0 m0 o0 → LJ (k + 1) x1 q1 w1 → va_S A s.heap H1 locs1 → lv_has ls1 7 [(4, .int i), (3, .ref o0), (2, .ref m0), (1, .ref x0), (0, .ref b)] → W p G.1 e room_1 s m args below meth c H1 locs1 (q1.ce + 200) (q1.sl + 960000) Q (F0 m 1187 ls1 [])) : W p G.1 e room_1 s m args below meth c H locs (q.ce + 200) (q.sl + 960000) Q (F0 m 1174 ls []) := by
  have hx := C.1.1
  have hb : c.code = cL_law := C.1.2.1
  obtain ⟨hu, hH, hm, el, b1, b2⟩ := id hJ
  obtain ⟨C9, wr, n9, lm, hj⟩ := el
  have el := JH_J hj
  refine lv_aload_n hx hb dlw_1174 rfl (lv_at hl 3 rfl) ?_
  refine LI_K C hI hu hS hl.1 (restv := []) (P := fun _ y9 _ => KRd x y9) dlw_1175 wcv_201 rfl (Nat.le_of_ble_eq_true rfl) (by decide) (T_mono (kr_alike (d := 898) hu.1 hH (P := fun v9 y9 => ∃ r, v9 = some (vi r) ∧ HOI y9 q ∧ KRd x y9) (fun r y9 h1 h2 => ⟨r, rfl, h1, h2⟩)) (fun o9 x9 f9 w9 => by obtain ⟨rfl, v, rfl, r, rfl, h1, h2⟩ := w9; exact ⟨r, q, rfl, rfl, hu, kst_rf q, h1, h2⟩)) (LJ_room hJ hk) (fun r1 x1 x2 q1 H1 locs1 hI hu1 hk1 hH1 hp1 ex hS => ?_)
  refine lv_pop hx hb dlw_1178 rfl ?_
  refine lv_aload_n hx hb dlw_1179 rfl (lv_at hl 2 rfl) ?_
  refine LI_M C hI hS hl.1 (restv := []) (d1 := 900) (F := fun _ w1 => rdM C9 wr w w1) [] [] (fun _ => rfl) dlw_1180 wcm_204 rfl rfl (Nat.le_of_ble_eq_true rfl) (by decide) (by omega) (sr_alike hm (fun _ _ h => h)) ⟨(LJ_room hJ hk q1 hu1 hk1).1, (LJ_room hJ hk q1 hu1 hk1).2⟩ (fun r2 w1 H1 locs1 hI hpm hS => ?_)
  refine lv_pop hx hb dlw_1183 rfl ?_
  refine lv_goto (tgt := 1187) hx hb dlw_1184 (by decide) ?_
  exact kk x1 q1 w1 H1 locs1 ls hI (LJ_next hJ hu1 hk1 hH1 hpm.1.1 (JR3_x ex (JQ_rd hj (HOI_1 ex.symm hu1 hH1) hp1 hpm))) hS hl
end
section
/-! THE CLAIM OUT OF ONE WALK OF THE LAW'S BODY. Your part is whole_start (and what it stands on); all else here is the same for every law, but numbers. -/
def R_law : String := "ScheduleHouseLaw"
def lw_P (b : Addr) (xs : List Int32) (args : Array Value) (s : State) : Prop := args = #[.ref b] ∧ s.IntsAt b xs ∧ xs.length ≤ 256 ∧ (Jvm.Cond.and given_1 narrow_1).before args s = true
def lw_Q (_ : Array Value) (s : State) (o : Outcome) (t : State) : Prop := o = .returned (some (.int 1)) ∧ Framed s o t [] 408892 7874804
def lw_Z (below : List Frame) (a : Array Value) (s : State) : State → Prop := fun t => ∃ o, t.status = .running ∧ Ended t below o ∧ lw_Q a s o t
/-- the law's own end, with 1 on the stack, nothing written that was there before, its room as the claim has it -/
theorem lw_ret {p : Program} {l : Launch} {e : Env} {s : State} {m : MethodId} {below : List Frame} {meth : Method} {c : Code} {b : Nat} (hx : p.tables.exec = Jvm.exec) (hb : c.code = code) (hr : meth.sig.returnType = ret) (hlocks : meth.locks = false) {pc : Nat} {H : Heap} {ls : Array Slot} (hdg : decode code pc = .ok (.ireturn, 1)) : W p l e room_1 s m #[Value.ref b] below meth c H [] 408892 7874804 (lw_Z below #[Value.ref b] s) (F0 m pc ls [.int 1]) := by
  intro T hT X
  obtain ⟨fs, hret, hrun, hended, hW, hframe⟩ := X.leave (v := some (.int 1)) (hlocks := hlocks) (fun h => by rw [hr] at h; cases h)
  have hmeth' : T.vm.method? m = some meth := X.method'
  refine ⟨T.setFrames fs, ?_, .returned (some (.int 1)), hrun, hended, rfl, ⟨_, rfl⟩, hW, hframe⟩
  jvm_step X.here [X.here.top, hx, hb, hdg, hmeth', hr, ret, narrow_b1]
  (try refine ⟨rfl, ?_⟩); (try refine ⟨rfl, ?_⟩)
  first | (intro acts; rw [hret _ acts rfl rfl rfl]) | rw [hret _ _ rfl rfl rfl]
  exact Steps.refl _
/-- what holds at the law's entry: the machine, the code, the tables' words (any of lw_tbl by 'hts w (by decide +kernel)'), the script of L ints xs at the cell b, what the Statement gives of the start (any of its parts by flat_of_before) -/
def lw_At (p : Program) (s : State) (m : MethodId) (meth : Method) (c : Code) (b L : Nat) (xs : Nat → Int32) : Prop :=
  p.tables.exec = Jvm.exec ∧ c.code = code ∧ meth.sig.returnType = ret ∧ c.maxLocals = 7 ∧ s.vm.findClass R_law = some m.cls ∧ (∀ w ∈ lw_tbl, w.before #[Value.ref b] s = true) ∧ va_X b L xs s s.heap ∧ b < s.heap.size ∧ meth.locks = false ∧ (Jvm.Cond.and given_1 narrow_1).before #[Value.ref b] s = true
theorem t_and31 (a : Int32) : 0 ≤ (a &&& 31).toInt ∧ (a &&& 31).toInt < 32 := by
  have h : (a &&& 31).toBitVec.toNat ≤ 31 := by
    rw [Int32.toBitVec_and, BitVec.toNat_and]
    exact Nat.and_le_right
  have e : (a &&& 31).toInt = ((a &&& 31).toBitVec.toNat : Int) := by
    show (a &&& 31).toBitVec.toInt = _
    exact BitVec.toInt_eq_toNat_of_lt (by omega)
  omega
theorem LJ_up {k : Nat} {x w : gd} {q : kP} (hJ : LJ k x q w) : LJ (k + 1) x q w := LJ_next hJ hJ.1 (kst_rf q) hJ.2.1 hJ.2.2.1 hJ.2.2.2.1
theorem LJ_rE {k : Nat} {x w : gd} {q : kP} (hJ : LJ k x q w) (hk : k ≤ 64) : q.ce + 200 ≤ 408892 ∧ q.sl + 960000 ≤ 7874804 := by
  have a1 := wC_b hJ.1
  have a2 := wS_b hJ.1
  have b1 := hJ.2.2.2.2.1
  have b2 := hJ.2.2.2.2.2
  omega
set_option maxRecDepth 100000 in
set_option maxHeartbeats 4000000 in
theorem law_loop {p : Program} {e : Env} {s : State} {m : MethodId} {below : List Frame} {meth : Method} {c : Code} {A : Nat → Prop} {G : kG} {x0 m0 o0 b L : Nat} {xs : Nat → Int32} (C : gC (wE (kE G)) 1000 yLaw p room_1 s m #[Value.ref b] meth c A) (hA : A = fun q : Nat => s.heap.size ≤ q) (hX : va_X b L xs s s.heap) (hbl : b < s.heap.size) (hbA : ¬ A b) (hL : L ≤ 256) :
    ∀ (n k : Nat) (i : Int32) (x : gd) (q : kP) (w : gd) (H : Heap) (locs : List Loc) (ls : Array Slot), k + n = 64 → i.toInt = 4 * k → LI G A H x q w x0 m0 o0 → LJ k x q w → va_S A s.heap H locs → lv_has ls 7 [(4, .int i), (3, .ref o0), (2, .ref m0), (1, .ref x0), (0, .ref b)] → W p G.1 e room_1 s m #[Value.ref b] below meth c H locs (q.ce + 200) (q.sl + 960000) (lw_Z below #[Value.ref b] s) (F0 m 23 ls []) := by
  have hx := C.1.1
  have hb : c.code = cL_law := C.1.2.1
  have k4 : (4 : Int32).toInt = 4 := rfl
  have eL : (Int32.ofNat L).toInt = L := by
    rw [Int32.toInt_ofNat_of_lt (by omega)]
  have e4 : (Int32.ofNat L - 4).toInt = L - 4 := by rw [t_sub (by rw [eL, k4]; omega) (by rw [eL, k4]; omega), eL, k4]
  intro n
  induction n with
  | zero =>
    intro k i x q w H locs ls hkn ei hI hJ hS hl
    refine lv_iload hx hb dlw_23 (lv_at hl 0 rfl) ?_
    refine lv_aload_n hx hb dlw_25 rfl (lv_at hl 4 rfl) ?_
    refine va_slen hx hb hX hbl hbA hS dlw_26 ?_
    refine lv_iconst (v := 4) hx hb dlw_27 (by decide +kernel) ?_
    refine lv_isub hx hb dlw_28 ?_
    refine lv_icmp_gt (tgt := 1193) hx hb dlw_29 (by decide) (fun _ => ?_) (fun c9 => absurd (show Int32.ofNat L - 4 < i by rw [t_lt, e4, ei]; omega) c9)
    refine lv_iconst (v := 1) hx hb dlw_1193 (by decide +kernel) ?_
    subst hA
    refine va_forget (fun q hq => hS.2.2 q hq) ?_
    have hr := LJ_rE hJ (by omega)
    refine W.widen (k := 408892) (n := 7874804) hr.1 hr.2 ?_
    exact lw_ret hx hb C.2.1.1 C.2.1.2.1 dlw_1194
  | succ n ih =>
    intro k i x q w H locs ls hkn ei hI hJ hS hl
    have hk : k < 64 := by omega
    refine lv_iload hx hb dlw_23 (lv_at hl 0 rfl) ?_
    refine lv_aload_n hx hb dlw_25 rfl (lv_at hl 4 rfl) ?_
    refine va_slen hx hb hX hbl hbA hS dlw_26 ?_
    refine lv_iconst (v := 4) hx hb dlw_27 (by decide +kernel) ?_
    refine lv_isub hx hb dlw_28 ?_
    refine lv_icmp_gt (tgt := 1193) hx hb dlw_29 (by decide) (fun _ => ?_) (fun c9 => ?_)
    · refine lv_iconst (v := 1) hx hb dlw_1193 (by decide +kernel) ?_
      subst hA
      refine va_forget (fun q hq => hS.2.2 q hq) ?_
      have hr := LJ_rE hJ (by omega)
      refine W.widen (k := 408892) (n := 7874804) hr.1 hr.2 ?_
      exact lw_ret hx hb C.2.1.1 C.2.1.2.1 dlw_1194
    rw [t_lt, e4, ei] at c9
    have ik : ∀ j : Int32, 0 ≤ j.toInt → j.toInt ≤ 3 → vp_in (i + j) L := fun j h0 h3 => by
      rw [vp_in_iff, t_add (by omega) (by omega)]; omega
    have v0 : vp_in i L := by rw [vp_in_iff]; omega
    have v1 := ik 1 (by decide) (by decide)
    have v2 := ik 2 (by decide) (by decide)
    have v3 := ik 3 (by decide) (by decide)
    have kk : ∀ (x1 : gd) (q1 : kP) (w1 : gd) (H1 : Heap) (locs1 : List Loc) (ls1 : Array Slot), LI G A H1 x1 q1 w1 x0 m0 o0 → LJ (k + 1) x1 q1 w1 → va_S A s.heap H1 locs1 → lv_has ls1 7 [(4, .int i), (3, .ref o0), (2, .ref m0), (1, .ref x0), (0, .ref b)] → W p G.1 e room_1 s m #[Value.ref b] below meth c H1 locs1 (q1.ce + 200) (q1.sl + 960000) (lw_Z below #[Value.ref b] s) (F0 m 1187 ls1 []) := by
      intro x1 q1 w1 H1 locs1 ls1 hI1 hJ1 hS1 hl1
      refine lv_iinc (v := i + 4) (lv' := [(4, .int (i + 4)), (3, .ref o0), (2, .ref m0), (1, .ref x0), (0, .ref b)]) hx hb dlw_1187 hl1 (k := 0) rfl rfl (by decide) rfl (fun ls2 hl2 => ?_)
      refine lv_goto (tgt := 23) hx hb dlw_1190 (by decide) ?_
      exact ih (k + 1) (i + 4) x1 q1 w1 H1 locs1 ls2 (by omega) (by rw [t_add (by rw [k4]; omega) (by rw [k4]; omega), k4, ei]; push_cast; omega) hI1 hJ1 hS1 hl2
    refine lv_aload_n hx hb dlw_32 rfl (lv_at hl 4 rfl) ?_
    refine lv_iload hx hb dlw_33 (lv_at hl 0 rfl) ?_
    refine va_sld hx hb hX hbl hbA hS (i := i) v0 dlw_35 ?_
    refine lv_bipush (v := 31) hx hb dlw_36 (by decide +kernel) ?_
    refine lv_iand hx hb dlw_38 ?_
    have hb31 := t_and31 (xs i.toNatClampNeg)
    obtain ⟨v, hv⟩ : ∃ v, v = xs i.toNatClampNeg &&& 31 := ⟨_, rfl⟩
    rw [← hv] at hb31 ⊢
    clear hv
    by_cases h28 : 28 < v.toInt
    · exact lv_tableOut (tgt := 1187) hx hb dlw_39 (Or.inr h28) (by decide) (kk x q w H locs ls hI (LJ_up hJ) hS hl)
    have hvs : v.toInt = 0 ∨ v.toInt = 1 ∨ v.toInt = 2 ∨ v.toInt = 3 ∨ v.toInt = 4 ∨ v.toInt = 5 ∨ v.toInt = 6 ∨ v.toInt = 7 ∨ v.toInt = 8 ∨ v.toInt = 9 ∨ v.toInt = 10 ∨ v.toInt = 11 ∨ v.toInt = 12 ∨ v.toInt = 13 ∨ v.toInt = 14 ∨ v.toInt = 15 ∨ v.toInt = 16 ∨ v.toInt = 17 ∨ v.toInt = 18 ∨ v.toInt = 19 ∨ v.toInt = 20 ∨ v.toInt = 21 ∨ v.toInt = 22 ∨ v.toInt = 23 ∨ v.toInt = 24 ∨ v.toInt = 25 ∨ v.toInt = 26 ∨ v.toInt = 27 ∨ v.toInt = 28 := by omega
    rcases hvs with hj | hj | hj | hj | hj | hj | hj | hj | hj | hj | hj | hj | hj | hj | hj | hj | hj | hj | hj | hj | hj | hj | hj | hj | hj | hj | hj | hj | hj
    · exact lv_tableIn (off := 129) (tgt := 168) hx hb dlw_39 (by omega) (by omega) (by rw [hj]; rfl) (by decide) (lc_0 C hX hbl hbA hI hJ hk hS v1 v2 v3 hl kk)
    · exact lv_tableIn (off := 201) (tgt := 240) hx hb dlw_39 (by omega) (by omega) (by rw [hj]; rfl) (by decide) (lc_1 C hX hbl hbA hI hJ hk hS v1 v2 v3 hl kk)
    · exact lv_tableIn (off := 214) (tgt := 253) hx hb dlw_39 (by omega) (by omega) (by rw [hj]; rfl) (by decide) (lc_2 C hX hbl hbA hI hJ hk hS v1 v2 v3 hl kk)
    · exact lv_tableIn (off := 227) (tgt := 266) hx hb dlw_39 (by omega) (by omega) (by rw [hj]; rfl) (by decide) (lc_3 C hX hbl hbA hI hJ hk hS v1 v2 v3 hl kk)
    · exact lv_tableIn (off := 255) (tgt := 294) hx hb dlw_39 (by omega) (by omega) (by rw [hj]; rfl) (by decide) (lc_4 C hX hbl hbA hI hJ hk hS v1 v2 v3 hl kk)
    · exact lv_tableIn (off := 283) (tgt := 322) hx hb dlw_39 (by omega) (by omega) (by rw [hj]; rfl) (by decide) (lc_5 C hX hbl hbA hI hJ hk hS v1 v2 v3 hl kk)
    · exact lv_tableIn (off := 311) (tgt := 350) hx hb dlw_39 (by omega) (by omega) (by rw [hj]; rfl) (by decide) (lc_6 C hX hbl hbA hI hJ hk hS v1 v2 v3 hl kk)
    · exact lv_tableIn (off := 327) (tgt := 366) hx hb dlw_39 (by omega) (by omega) (by rw [hj]; rfl) (by decide) (lc_7 C hX hbl hbA hI hJ hk hS v1 v2 v3 hl kk)
    · exact lv_tableIn (off := 367) (tgt := 406) hx hb dlw_39 (by omega) (by omega) (by rw [hj]; rfl) (by decide) (lc_8 C hX hbl hbA hI hJ hk hS v1 v2 v3 hl kk)
    · exact lv_tableIn (off := 395) (tgt := 434) hx hb dlw_39 (by omega) (by omega) (by rw [hj]; rfl) (by decide) (lc_9 C hX hbl hbA hI hJ hk hS v1 v2 v3 hl kk)
    · exact lv_tableIn (off := 435) (tgt := 474) hx hb dlw_39 (by omega) (by omega) (by rw [hj]; rfl) (by decide) (lc_10 C hX hbl hbA hI hJ hk hS v1 v2 v3 hl kk)
    · exact lv_tableIn (off := 463) (tgt := 502) hx hb dlw_39 (by omega) (by omega) (by rw [hj]; rfl) (by decide) (lc_11 C hX hbl hbA hI hJ hk hS v1 v2 v3 hl kk)
    · exact lv_tableIn (off := 491) (tgt := 530) hx hb dlw_39 (by omega) (by omega) (by rw [hj]; rfl) (by decide) (lc_12 C hX hbl hbA hI hJ hk hS v1 v2 v3 hl kk)
    · exact lv_tableIn (off := 519) (tgt := 558) hx hb dlw_39 (by omega) (by omega) (by rw [hj]; rfl) (by decide) (lc_13 C hX hbl hbA hI hJ hk hS v1 v2 v3 hl kk)
    · exact lv_tableIn (off := 559) (tgt := 598) hx hb dlw_39 (by omega) (by omega) (by rw [hj]; rfl) (by decide) (lc_14 C hX hbl hbA hI hJ hk hS v1 v2 v3 hl kk)
    · exact lv_tableIn (off := 599) (tgt := 638) hx hb dlw_39 (by omega) (by omega) (by rw [hj]; rfl) (by decide) (lc_15 C hX hbl hbA hI hJ hk hS v1 v2 v3 hl kk)
    · exact lv_tableIn (off := 639) (tgt := 678) hx hb dlw_39 (by omega) (by omega) (by rw [hj]; rfl) (by decide) (lc_16 C hX hbl hbA hI hJ hk hS v1 v2 v3 hl kk)
    · exact lv_tableIn (off := 679) (tgt := 718) hx hb dlw_39 (by omega) (by omega) (by rw [hj]; rfl) (by decide) (lc_17 C hX hbl hbA hI hJ hk hS v1 v2 v3 hl kk)
    · exact lv_tableIn (off := 719) (tgt := 758) hx hb dlw_39 (by omega) (by omega) (by rw [hj]; rfl) (by decide) (lc_18 C hX hbl hbA hI hJ hk hS v1 v2 v3 hl kk)
    · exact lv_tableIn (off := 759) (tgt := 798) hx hb dlw_39 (by omega) (by omega) (by rw [hj]; rfl) (by decide) (lc_19 C hX hbl hbA hI hJ hk hS v1 v2 v3 hl kk)
    · exact lv_tableIn (off := 799) (tgt := 838) hx hb dlw_39 (by omega) (by omega) (by rw [hj]; rfl) (by decide) (lc_20 C hX hbl hbA hI hJ hk hS v1 v2 v3 hl kk)
    · exact lv_tableIn (off := 827) (tgt := 866) hx hb dlw_39 (by omega) (by omega) (by rw [hj]; rfl) (by decide) (lc_21 C hX hbl hbA hI hJ hk hS v1 v2 v3 hl kk)
    · exact lv_tableIn (off := 867) (tgt := 906) hx hb dlw_39 (by omega) (by omega) (by rw [hj]; rfl) (by decide) (lc_22 C hX hbl hbA hI hJ hk hS v1 v2 v3 hl kk)
    · exact lv_tableIn (off := 907) (tgt := 946) hx hb dlw_39 (by omega) (by omega) (by rw [hj]; rfl) (by decide) (lc_23 C hX hbl hbA hI hJ hk hS v1 v2 v3 hl kk)
    · exact lv_tableIn (off := 959) (tgt := 998) hx hb dlw_39 (by omega) (by omega) (by rw [hj]; rfl) (by decide) (lc_24 C hX hbl hbA hI hJ hk hS v1 v2 v3 hl kk)
    · exact lv_tableIn (off := 1027) (tgt := 1066) hx hb dlw_39 (by omega) (by omega) (by rw [hj]; rfl) (by decide) (lc_25 C hX hbl hbA hI hJ hk hS v1 v2 v3 hl kk)
    · exact lv_tableIn (off := 1067) (tgt := 1106) hx hb dlw_39 (by omega) (by omega) (by rw [hj]; rfl) (by decide) (lc_26 C hX hbl hbA hI hJ hk hS v1 v2 v3 hl kk)
    · exact lv_tableIn (off := 1107) (tgt := 1146) hx hb dlw_39 (by omega) (by omega) (by rw [hj]; rfl) (by decide) (lc_27 C hX hbl hbA hI hJ hk hS v1 v2 v3 hl kk)
    · exact lv_tableIn (off := 1135) (tgt := 1174) hx hb dlw_39 (by omega) (by omega) (by rw [hj]; rfl) (by decide) (lc_28 C hX hbl hbA hI hJ hk hS v1 v2 v3 hl kk)
end
