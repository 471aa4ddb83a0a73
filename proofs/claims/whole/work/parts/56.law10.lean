/-! the law: decode rows -/
theorem dk_111_863 : decode code 863 = .ok (.iconst (0), 1) := by decide +kernel
theorem dk_111_864 : decode code 864 = .ok (.ireturn, 1) := by decide +kernel
theorem dk_111_865 : decode code 865 = .ok (.iload 5, 2) := by decide +kernel
theorem dk_111_867 : decode code 867 = .ok (.ifCond .ne (15), 3) := by decide +kernel
theorem dk_111_870 : decode code 870 = .ok (.aload_n 3, 1) := by decide +kernel
theorem dk_111_871 : decode code 871 = .ok (.iconst (0), 1) := by decide +kernel
theorem dk_111_872 : decode code 872 = .ok (.laload, 1) := by decide +kernel
theorem dk_111_873 : decode code 873 = .ok (.iload 6, 2) := by decide +kernel
theorem dk_111_875 : decode code 875 = .ok (.i2l, 1) := by decide +kernel
theorem dk_111_876 : decode code 876 = .ok (.lcmp, 1) := by decide +kernel
theorem dk_111_877 : decode code 877 = .ok (.ifCond .eq (5), 3) := by decide +kernel
theorem dk_111_880 : decode code 880 = .ok (.iconst (0), 1) := by decide +kernel
theorem dk_111_881 : decode code 881 = .ok (.ireturn, 1) := by decide +kernel
theorem dk_111_882 : decode code 882 = .ok (.goto (235), 3) := by decide +kernel
theorem dk_111_885 : decode code 885 = .ok (.aload_n 1, 1) := by decide +kernel
theorem dk_111_886 : decode code 886 = .ok (.aload_n 0, 1) := by decide +kernel
theorem dk_111_887 : decode code 887 = .ok (.iload 4, 2) := by decide +kernel
theorem dk_111_889 : decode code 889 = .ok (.iconst (1), 1) := by decide +kernel
theorem dk_111_890 : decode code 890 = .ok (.iadd, 1) := by decide +kernel
theorem dk_111_891 : decode code 891 = .ok (.iaload, 1) := by decide +kernel
theorem dk_111_892 : decode code 892 = .ok (.aload_n 3, 1) := by decide +kernel
theorem dk_111_893 : decode code 893 = .ok (.invokestatic 121, 3) := by decide +kernel
theorem dk_111_896 : decode code 896 = .ok (.istore 5, 2) := by decide +kernel
theorem dk_111_898 : decode code 898 = .ok (.aload_n 2, 1) := by decide +kernel
theorem dk_111_899 : decode code 899 = .ok (.aload_n 0, 1) := by decide +kernel
theorem dk_111_900 : decode code 900 = .ok (.iload 4, 2) := by decide +kernel
theorem dk_111_902 : decode code 902 = .ok (.iconst (1), 1) := by decide +kernel
theorem dk_111_903 : decode code 903 = .ok (.iadd, 1) := by decide +kernel
theorem dk_111_904 : decode code 904 = .ok (.iaload, 1) := by decide +kernel
theorem dk_111_905 : decode code 905 = .ok (.invokevirtual 123, 3) := by decide +kernel
theorem dk_111_908 : decode code 908 = .ok (.istore 6, 2) := by decide +kernel
theorem dk_111_910 : decode code 910 = .ok (.aload_n 2, 1) := by decide +kernel
theorem dk_111_911 : decode code 911 = .ok (.invokevirtual 75, 3) := by decide +kernel
theorem dk_111_914 : decode code 914 = .ok (.iload 5, 2) := by decide +kernel
theorem dk_111_916 : decode code 916 = .ok (.if_icmp .eq (5), 3) := by decide +kernel
theorem dk_111_919 : decode code 919 = .ok (.iconst (0), 1) := by decide +kernel
theorem dk_111_920 : decode code 920 = .ok (.ireturn, 1) := by decide +kernel
theorem dk_111_921 : decode code 921 = .ok (.iload 5, 2) := by decide +kernel
theorem dk_111_923 : decode code 923 = .ok (.ifCond .ne (15), 3) := by decide +kernel
theorem dk_111_926 : decode code 926 = .ok (.aload_n 3, 1) := by decide +kernel
theorem dk_111_927 : decode code 927 = .ok (.iconst (0), 1) := by decide +kernel
theorem dk_111_928 : decode code 928 = .ok (.laload, 1) := by decide +kernel
theorem dk_111_929 : decode code 929 = .ok (.iload 6, 2) := by decide +kernel
theorem dk_111_931 : decode code 931 = .ok (.i2l, 1) := by decide +kernel
theorem dk_111_932 : decode code 932 = .ok (.lcmp, 1) := by decide +kernel
theorem dk_111_933 : decode code 933 = .ok (.ifCond .eq (5), 3) := by decide +kernel
theorem dk_111_936 : decode code 936 = .ok (.iconst (0), 1) := by decide +kernel
theorem dk_111_937 : decode code 937 = .ok (.ireturn, 1) := by decide +kernel
theorem dk_111_938 : decode code 938 = .ok (.goto (179), 3) := by decide +kernel
theorem dk_111_941 : decode code 941 = .ok (.aload_n 1, 1) := by decide +kernel
