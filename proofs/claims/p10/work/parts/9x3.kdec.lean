set_option maxRecDepth 100000 in
theorem dlw_800 : decode cL_law 800 = .ok (.invokestatic 170, 3) := by decide +kernel
set_option maxRecDepth 100000 in
theorem dlw_803 : decode cL_law 803 = .ok (.istore 5, 2) := by decide +kernel
set_option maxRecDepth 100000 in
theorem dlw_805 : decode cL_law 805 = .ok (.aload_n 2, 1) := by decide +kernel
set_option maxRecDepth 100000 in
theorem dlw_806 : decode cL_law 806 = .ok (.aload_n 0, 1) := by decide +kernel
set_option maxRecDepth 100000 in
theorem dlw_807 : decode cL_law 807 = .ok (.iload 4, 2) := by decide +kernel
set_option maxRecDepth 100000 in
theorem dlw_809 : decode cL_law 809 = .ok (.iconst 1, 1) := by decide +kernel
set_option maxRecDepth 100000 in
theorem dlw_810 : decode cL_law 810 = .ok (.iadd, 1) := by decide +kernel
set_option maxRecDepth 100000 in
theorem dlw_811 : decode cL_law 811 = .ok (.iaload, 1) := by decide +kernel
set_option maxRecDepth 100000 in
theorem dlw_812 : decode cL_law 812 = .ok (.aload_n 0, 1) := by decide +kernel
set_option maxRecDepth 100000 in
theorem dlw_813 : decode cL_law 813 = .ok (.iload 4, 2) := by decide +kernel
set_option maxRecDepth 100000 in
theorem dlw_815 : decode cL_law 815 = .ok (.iconst 2, 1) := by decide +kernel
set_option maxRecDepth 100000 in
theorem dlw_816 : decode cL_law 816 = .ok (.iadd, 1) := by decide +kernel
set_option maxRecDepth 100000 in
theorem dlw_817 : decode cL_law 817 = .ok (.iaload, 1) := by decide +kernel
set_option maxRecDepth 100000 in
theorem dlw_818 : decode cL_law 818 = .ok (.invokevirtual 172, 3) := by decide +kernel
set_option maxRecDepth 100000 in
theorem dlw_821 : decode cL_law 821 = .ok (.istore 6, 2) := by decide +kernel
set_option maxRecDepth 100000 in
theorem dlw_823 : decode cL_law 823 = .ok (.goto 364, 3) := by decide +kernel
set_option maxRecDepth 100000 in
theorem dlw_826 : decode cL_law 826 = .ok (.aload_n 1, 1) := by decide +kernel
set_option maxRecDepth 100000 in
theorem dlw_827 : decode cL_law 827 = .ok (.aload_n 0, 1) := by decide +kernel
set_option maxRecDepth 100000 in
theorem dlw_828 : decode cL_law 828 = .ok (.iload 4, 2) := by decide +kernel
set_option maxRecDepth 100000 in
theorem dlw_830 : decode cL_law 830 = .ok (.iconst 1, 1) := by decide +kernel
set_option maxRecDepth 100000 in
theorem dlw_831 : decode cL_law 831 = .ok (.iadd, 1) := by decide +kernel
set_option maxRecDepth 100000 in
theorem dlw_832 : decode cL_law 832 = .ok (.iaload, 1) := by decide +kernel
set_option maxRecDepth 100000 in
theorem dlw_833 : decode cL_law 833 = .ok (.aload_n 0, 1) := by decide +kernel
set_option maxRecDepth 100000 in
theorem dlw_834 : decode cL_law 834 = .ok (.iload 4, 2) := by decide +kernel
set_option maxRecDepth 100000 in
theorem dlw_836 : decode cL_law 836 = .ok (.iconst 2, 1) := by decide +kernel
set_option maxRecDepth 100000 in
theorem dlw_837 : decode cL_law 837 = .ok (.iadd, 1) := by decide +kernel
set_option maxRecDepth 100000 in
theorem dlw_838 : decode cL_law 838 = .ok (.iaload, 1) := by decide +kernel
set_option maxRecDepth 100000 in
theorem dlw_839 : decode cL_law 839 = .ok (.aload_n 3, 1) := by decide +kernel
set_option maxRecDepth 100000 in
theorem dlw_840 : decode cL_law 840 = .ok (.invokestatic 173, 3) := by decide +kernel
set_option maxRecDepth 100000 in
theorem dlw_843 : decode cL_law 843 = .ok (.istore 5, 2) := by decide +kernel
set_option maxRecDepth 100000 in
theorem dlw_845 : decode cL_law 845 = .ok (.aload_n 2, 1) := by decide +kernel
set_option maxRecDepth 100000 in
theorem dlw_846 : decode cL_law 846 = .ok (.aload_n 0, 1) := by decide +kernel
set_option maxRecDepth 100000 in
theorem dlw_847 : decode cL_law 847 = .ok (.iload 4, 2) := by decide +kernel
set_option maxRecDepth 100000 in
theorem dlw_849 : decode cL_law 849 = .ok (.iconst 1, 1) := by decide +kernel
set_option maxRecDepth 100000 in
theorem dlw_850 : decode cL_law 850 = .ok (.iadd, 1) := by decide +kernel
set_option maxRecDepth 100000 in
theorem dlw_851 : decode cL_law 851 = .ok (.iaload, 1) := by decide +kernel
set_option maxRecDepth 100000 in
theorem dlw_852 : decode cL_law 852 = .ok (.aload_n 0, 1) := by decide +kernel
set_option maxRecDepth 100000 in
theorem dlw_853 : decode cL_law 853 = .ok (.iload 4, 2) := by decide +kernel
set_option maxRecDepth 100000 in
theorem dlw_855 : decode cL_law 855 = .ok (.iconst 2, 1) := by decide +kernel
set_option maxRecDepth 100000 in
theorem dlw_856 : decode cL_law 856 = .ok (.iadd, 1) := by decide +kernel
set_option maxRecDepth 100000 in
theorem dlw_857 : decode cL_law 857 = .ok (.iaload, 1) := by decide +kernel
set_option maxRecDepth 100000 in
theorem dlw_858 : decode cL_law 858 = .ok (.invokevirtual 175, 3) := by decide +kernel
set_option maxRecDepth 100000 in
theorem dlw_861 : decode cL_law 861 = .ok (.istore 6, 2) := by decide +kernel
set_option maxRecDepth 100000 in
theorem dlw_863 : decode cL_law 863 = .ok (.goto 324, 3) := by decide +kernel
set_option maxRecDepth 100000 in
theorem dlw_866 : decode cL_law 866 = .ok (.aload_n 1, 1) := by decide +kernel
set_option maxRecDepth 100000 in
theorem dlw_867 : decode cL_law 867 = .ok (.aload_n 0, 1) := by decide +kernel
set_option maxRecDepth 100000 in
theorem dlw_868 : decode cL_law 868 = .ok (.iload 4, 2) := by decide +kernel
set_option maxRecDepth 100000 in
theorem dlw_870 : decode cL_law 870 = .ok (.iconst 1, 1) := by decide +kernel
set_option maxRecDepth 100000 in
theorem dlw_871 : decode cL_law 871 = .ok (.iadd, 1) := by decide +kernel
set_option maxRecDepth 100000 in
theorem dlw_872 : decode cL_law 872 = .ok (.iaload, 1) := by decide +kernel
set_option maxRecDepth 100000 in
theorem dlw_873 : decode cL_law 873 = .ok (.aload_n 3, 1) := by decide +kernel
set_option maxRecDepth 100000 in
theorem dlw_874 : decode cL_law 874 = .ok (.invokestatic 176, 3) := by decide +kernel
set_option maxRecDepth 100000 in
theorem dlw_877 : decode cL_law 877 = .ok (.istore 5, 2) := by decide +kernel
set_option maxRecDepth 100000 in
theorem dlw_879 : decode cL_law 879 = .ok (.aload_n 2, 1) := by decide +kernel
set_option maxRecDepth 100000 in
theorem dlw_880 : decode cL_law 880 = .ok (.aload_n 0, 1) := by decide +kernel
set_option maxRecDepth 100000 in
theorem dlw_881 : decode cL_law 881 = .ok (.iload 4, 2) := by decide +kernel
set_option maxRecDepth 100000 in
theorem dlw_883 : decode cL_law 883 = .ok (.iconst 1, 1) := by decide +kernel
set_option maxRecDepth 100000 in
theorem dlw_884 : decode cL_law 884 = .ok (.iadd, 1) := by decide +kernel
set_option maxRecDepth 100000 in
theorem dlw_885 : decode cL_law 885 = .ok (.iaload, 1) := by decide +kernel
set_option maxRecDepth 100000 in
theorem dlw_886 : decode cL_law 886 = .ok (.invokevirtual 178, 3) := by decide +kernel
set_option maxRecDepth 100000 in
theorem dlw_889 : decode cL_law 889 = .ok (.istore 6, 2) := by decide +kernel
set_option maxRecDepth 100000 in
theorem dlw_891 : decode cL_law 891 = .ok (.goto 296, 3) := by decide +kernel
set_option maxRecDepth 100000 in
theorem dlw_894 : decode cL_law 894 = .ok (.aload_n 1, 1) := by decide +kernel
set_option maxRecDepth 100000 in
theorem dlw_895 : decode cL_law 895 = .ok (.aload_n 0, 1) := by decide +kernel
set_option maxRecDepth 100000 in
theorem dlw_896 : decode cL_law 896 = .ok (.iload 4, 2) := by decide +kernel
set_option maxRecDepth 100000 in
theorem dlw_898 : decode cL_law 898 = .ok (.iconst 1, 1) := by decide +kernel
set_option maxRecDepth 100000 in
theorem dlw_899 : decode cL_law 899 = .ok (.iadd, 1) := by decide +kernel
set_option maxRecDepth 100000 in
theorem dlw_900 : decode cL_law 900 = .ok (.iaload, 1) := by decide +kernel
set_option maxRecDepth 100000 in
theorem dlw_901 : decode cL_law 901 = .ok (.aload_n 0, 1) := by decide +kernel
set_option maxRecDepth 100000 in
theorem dlw_902 : decode cL_law 902 = .ok (.iload 4, 2) := by decide +kernel
set_option maxRecDepth 100000 in
theorem dlw_904 : decode cL_law 904 = .ok (.iconst 2, 1) := by decide +kernel
set_option maxRecDepth 100000 in
theorem dlw_905 : decode cL_law 905 = .ok (.iadd, 1) := by decide +kernel
set_option maxRecDepth 100000 in
theorem dlw_906 : decode cL_law 906 = .ok (.iaload, 1) := by decide +kernel
set_option maxRecDepth 100000 in
theorem dlw_907 : decode cL_law 907 = .ok (.aload_n 3, 1) := by decide +kernel
set_option maxRecDepth 100000 in
theorem dlw_908 : decode cL_law 908 = .ok (.invokestatic 179, 3) := by decide +kernel
set_option maxRecDepth 100000 in
theorem dlw_911 : decode cL_law 911 = .ok (.istore 5, 2) := by decide +kernel
set_option maxRecDepth 100000 in
theorem dlw_913 : decode cL_law 913 = .ok (.aload_n 2, 1) := by decide +kernel
set_option maxRecDepth 100000 in
theorem dlw_914 : decode cL_law 914 = .ok (.aload_n 0, 1) := by decide +kernel
set_option maxRecDepth 100000 in
theorem dlw_915 : decode cL_law 915 = .ok (.iload 4, 2) := by decide +kernel
set_option maxRecDepth 100000 in
theorem dlw_917 : decode cL_law 917 = .ok (.iconst 1, 1) := by decide +kernel
set_option maxRecDepth 100000 in
theorem dlw_918 : decode cL_law 918 = .ok (.iadd, 1) := by decide +kernel
set_option maxRecDepth 100000 in
theorem dlw_919 : decode cL_law 919 = .ok (.iaload, 1) := by decide +kernel
set_option maxRecDepth 100000 in
theorem dlw_920 : decode cL_law 920 = .ok (.aload_n 0, 1) := by decide +kernel
set_option maxRecDepth 100000 in
theorem dlw_921 : decode cL_law 921 = .ok (.iload 4, 2) := by decide +kernel
set_option maxRecDepth 100000 in
theorem dlw_923 : decode cL_law 923 = .ok (.iconst 2, 1) := by decide +kernel
set_option maxRecDepth 100000 in
theorem dlw_924 : decode cL_law 924 = .ok (.iadd, 1) := by decide +kernel
set_option maxRecDepth 100000 in
theorem dlw_925 : decode cL_law 925 = .ok (.iaload, 1) := by decide +kernel
set_option maxRecDepth 100000 in
theorem dlw_926 : decode cL_law 926 = .ok (.invokevirtual 181, 3) := by decide +kernel
set_option maxRecDepth 100000 in
theorem dlw_929 : decode cL_law 929 = .ok (.istore 6, 2) := by decide +kernel
set_option maxRecDepth 100000 in
theorem dlw_931 : decode cL_law 931 = .ok (.goto 256, 3) := by decide +kernel
set_option maxRecDepth 100000 in
theorem dlw_934 : decode cL_law 934 = .ok (.aload_n 1, 1) := by decide +kernel
set_option maxRecDepth 100000 in
theorem dlw_935 : decode cL_law 935 = .ok (.aload_n 0, 1) := by decide +kernel
set_option maxRecDepth 100000 in
theorem dlw_936 : decode cL_law 936 = .ok (.iload 4, 2) := by decide +kernel
set_option maxRecDepth 100000 in
theorem dlw_938 : decode cL_law 938 = .ok (.iconst 1, 1) := by decide +kernel
set_option maxRecDepth 100000 in
theorem dlw_939 : decode cL_law 939 = .ok (.iadd, 1) := by decide +kernel
set_option maxRecDepth 100000 in
theorem dlw_940 : decode cL_law 940 = .ok (.iaload, 1) := by decide +kernel
set_option maxRecDepth 100000 in
theorem dlw_941 : decode cL_law 941 = .ok (.aload_n 0, 1) := by decide +kernel
set_option maxRecDepth 100000 in
theorem dlw_942 : decode cL_law 942 = .ok (.iload 4, 2) := by decide +kernel
set_option maxRecDepth 100000 in
theorem dlw_944 : decode cL_law 944 = .ok (.iconst 2, 1) := by decide +kernel
set_option maxRecDepth 100000 in
theorem dlw_945 : decode cL_law 945 = .ok (.iadd, 1) := by decide +kernel
set_option maxRecDepth 100000 in
theorem dlw_946 : decode cL_law 946 = .ok (.iaload, 1) := by decide +kernel
set_option maxRecDepth 100000 in
theorem dlw_947 : decode cL_law 947 = .ok (.aload_n 3, 1) := by decide +kernel
set_option maxRecDepth 100000 in
theorem dlw_948 : decode cL_law 948 = .ok (.invokestatic 182, 3) := by decide +kernel
set_option maxRecDepth 100000 in
theorem dlw_951 : decode cL_law 951 = .ok (.istore 5, 2) := by decide +kernel
set_option maxRecDepth 100000 in
theorem dlw_953 : decode cL_law 953 = .ok (.aload_n 2, 1) := by decide +kernel
set_option maxRecDepth 100000 in
theorem dlw_954 : decode cL_law 954 = .ok (.aload_n 0, 1) := by decide +kernel
set_option maxRecDepth 100000 in
theorem dlw_955 : decode cL_law 955 = .ok (.iload 4, 2) := by decide +kernel
set_option maxRecDepth 100000 in
theorem dlw_957 : decode cL_law 957 = .ok (.iconst 1, 1) := by decide +kernel
set_option maxRecDepth 100000 in
theorem dlw_958 : decode cL_law 958 = .ok (.iadd, 1) := by decide +kernel
set_option maxRecDepth 100000 in
theorem dlw_959 : decode cL_law 959 = .ok (.iaload, 1) := by decide +kernel
set_option maxRecDepth 100000 in
theorem dlw_960 : decode cL_law 960 = .ok (.aload_n 0, 1) := by decide +kernel
set_option maxRecDepth 100000 in
theorem dlw_961 : decode cL_law 961 = .ok (.iload 4, 2) := by decide +kernel
set_option maxRecDepth 100000 in
theorem dlw_963 : decode cL_law 963 = .ok (.iconst 2, 1) := by decide +kernel
set_option maxRecDepth 100000 in
theorem dlw_964 : decode cL_law 964 = .ok (.iadd, 1) := by decide +kernel
set_option maxRecDepth 100000 in
theorem dlw_965 : decode cL_law 965 = .ok (.iaload, 1) := by decide +kernel
set_option maxRecDepth 100000 in
theorem dlw_966 : decode cL_law 966 = .ok (.invokevirtual 184, 3) := by decide +kernel
set_option maxRecDepth 100000 in
theorem dlw_969 : decode cL_law 969 = .ok (.istore 6, 2) := by decide +kernel
set_option maxRecDepth 100000 in
theorem dlw_971 : decode cL_law 971 = .ok (.goto 216, 3) := by decide +kernel
set_option maxRecDepth 100000 in
theorem dlw_974 : decode cL_law 974 = .ok (.aload_n 1, 1) := by decide +kernel
set_option maxRecDepth 100000 in
theorem dlw_975 : decode cL_law 975 = .ok (.aload_n 0, 1) := by decide +kernel
set_option maxRecDepth 100000 in
theorem dlw_976 : decode cL_law 976 = .ok (.iload 4, 2) := by decide +kernel
set_option maxRecDepth 100000 in
theorem dlw_978 : decode cL_law 978 = .ok (.iconst 1, 1) := by decide +kernel
set_option maxRecDepth 100000 in
theorem dlw_979 : decode cL_law 979 = .ok (.iadd, 1) := by decide +kernel
set_option maxRecDepth 100000 in
theorem dlw_980 : decode cL_law 980 = .ok (.iaload, 1) := by decide +kernel
set_option maxRecDepth 100000 in
theorem dlw_981 : decode cL_law 981 = .ok (.aload_n 0, 1) := by decide +kernel
set_option maxRecDepth 100000 in
theorem dlw_982 : decode cL_law 982 = .ok (.iload 4, 2) := by decide +kernel
set_option maxRecDepth 100000 in
theorem dlw_984 : decode cL_law 984 = .ok (.iconst 2, 1) := by decide +kernel
set_option maxRecDepth 100000 in
theorem dlw_985 : decode cL_law 985 = .ok (.iadd, 1) := by decide +kernel
set_option maxRecDepth 100000 in
theorem dlw_986 : decode cL_law 986 = .ok (.iaload, 1) := by decide +kernel
set_option maxRecDepth 100000 in
theorem dlw_987 : decode cL_law 987 = .ok (.aload_n 0, 1) := by decide +kernel
set_option maxRecDepth 100000 in
theorem dlw_988 : decode cL_law 988 = .ok (.iload 4, 2) := by decide +kernel
set_option maxRecDepth 100000 in
theorem dlw_990 : decode cL_law 990 = .ok (.iconst 3, 1) := by decide +kernel
set_option maxRecDepth 100000 in
theorem dlw_991 : decode cL_law 991 = .ok (.iadd, 1) := by decide +kernel
set_option maxRecDepth 100000 in
theorem dlw_992 : decode cL_law 992 = .ok (.iaload, 1) := by decide +kernel
set_option maxRecDepth 100000 in
theorem dlw_993 : decode cL_law 993 = .ok (.aload_n 3, 1) := by decide +kernel
set_option maxRecDepth 100000 in
theorem dlw_994 : decode cL_law 994 = .ok (.invokestatic 185, 3) := by decide +kernel
set_option maxRecDepth 100000 in
theorem dlw_997 : decode cL_law 997 = .ok (.istore 5, 2) := by decide +kernel
set_option maxRecDepth 100000 in
theorem dlw_999 : decode cL_law 999 = .ok (.aload_n 2, 1) := by decide +kernel
set_option maxRecDepth 100000 in
theorem dlw_1000 : decode cL_law 1000 = .ok (.aload_n 0, 1) := by decide +kernel
set_option maxRecDepth 100000 in
theorem dlw_1001 : decode cL_law 1001 = .ok (.iload 4, 2) := by decide +kernel
set_option maxRecDepth 100000 in
theorem dlw_1003 : decode cL_law 1003 = .ok (.iconst 1, 1) := by decide +kernel
set_option maxRecDepth 100000 in
theorem dlw_1004 : decode cL_law 1004 = .ok (.iadd, 1) := by decide +kernel
set_option maxRecDepth 100000 in
theorem dlw_1005 : decode cL_law 1005 = .ok (.iaload, 1) := by decide +kernel
set_option maxRecDepth 100000 in
theorem dlw_1006 : decode cL_law 1006 = .ok (.aload_n 0, 1) := by decide +kernel
set_option maxRecDepth 100000 in
theorem dlw_1007 : decode cL_law 1007 = .ok (.iload 4, 2) := by decide +kernel
set_option maxRecDepth 100000 in
theorem dlw_1009 : decode cL_law 1009 = .ok (.iconst 2, 1) := by decide +kernel
set_option maxRecDepth 100000 in
theorem dlw_1010 : decode cL_law 1010 = .ok (.iadd, 1) := by decide +kernel
set_option maxRecDepth 100000 in
theorem dlw_1011 : decode cL_law 1011 = .ok (.iaload, 1) := by decide +kernel
set_option maxRecDepth 100000 in
theorem dlw_1012 : decode cL_law 1012 = .ok (.aload_n 0, 1) := by decide +kernel
set_option maxRecDepth 100000 in
theorem dlw_1013 : decode cL_law 1013 = .ok (.iload 4, 2) := by decide +kernel
