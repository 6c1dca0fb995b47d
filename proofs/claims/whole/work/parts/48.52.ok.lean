set_option maxRecDepth 100000 in
theorem ok_66 : aOKm m_66 = true := by decide +kernel
set_option maxRecDepth 100000 in
theorem mk_66 : aMchk m_66 = true := by decide +kernel
set_option maxRecDepth 100000 in
theorem ok_67 : aOKm m_67 = true := by decide +kernel
set_option maxRecDepth 100000 in
theorem mk_67 : aMchk m_67 = true := by decide +kernel
set_option maxRecDepth 100000 in
theorem ok_68 : aOKm m_68 = true := by decide +kernel
set_option maxRecDepth 100000 in
theorem mk_68 : aMchk m_68 = true := by decide +kernel
set_option maxRecDepth 100000 in
theorem ok_69 : aOKm m_69 = true := by decide +kernel
set_option maxRecDepth 100000 in
theorem mk_69 : aMchk m_69 = true := by decide +kernel
set_option maxRecDepth 100000 in
theorem ok_70 : aOKm m_70 = true := by decide +kernel
set_option maxRecDepth 100000 in
theorem mk_70 : aMchk m_70 = true := by decide +kernel
set_option maxRecDepth 100000 in
theorem ok_71 : aOKm m_71 = true := by decide +kernel
set_option maxRecDepth 100000 in
theorem mk_71 : aMchk m_71 = true := by decide +kernel
set_option maxRecDepth 100000 in
theorem ok_72 : aOKm m_72 = true := by decide +kernel
set_option maxRecDepth 100000 in
theorem mk_72 : aMchk m_72 = true := by decide +kernel
set_option maxRecDepth 100000 in
theorem ok_73 : aOKm m_73 = true := by decide +kernel
set_option maxRecDepth 100000 in
theorem mk_73 : aMchk m_73 = true := by decide +kernel
set_option maxRecDepth 100000 in
theorem ok_74 : aOKm m_74 = true := by decide +kernel
set_option maxRecDepth 100000 in
theorem mk_74 : aMchk m_74 = true := by decide +kernel
set_option maxRecDepth 100000 in
theorem ok_75 : aOKm m_75 = true := by decide +kernel
set_option maxRecDepth 100000 in
theorem mk_75 : aMchk m_75 = true := by decide +kernel
set_option maxRecDepth 100000 in
theorem ok_76 : aOKm m_76 = true := by decide +kernel
set_option maxRecDepth 100000 in
theorem mk_76 : aMchk m_76 = true := by decide +kernel
set_option maxRecDepth 100000 in
theorem ok_77 : aOKm m_77 = true := by decide +kernel
set_option maxRecDepth 100000 in
theorem mk_77 : aMchk m_77 = true := by decide +kernel
set_option maxRecDepth 100000 in
theorem ok_78 : aOKm m_78 = true := by decide +kernel
set_option maxRecDepth 100000 in
theorem mk_78 : aMchk m_78 = true := by decide +kernel
set_option maxRecDepth 100000 in
theorem ok_79 : aOKm m_79 = true := by decide +kernel
set_option maxRecDepth 100000 in
theorem mk_79 : aMchk m_79 = true := by decide +kernel
set_option maxRecDepth 100000 in
theorem ok_80 : aOKm m_80 = true := by decide +kernel
set_option maxRecDepth 100000 in
theorem mk_80 : aMchk m_80 = true := by decide +kernel
set_option maxRecDepth 100000 in
theorem ok_81 : aOKm m_81 = true := by decide +kernel
set_option maxRecDepth 100000 in
theorem mk_81 : aMchk m_81 = true := by decide +kernel
set_option maxRecDepth 100000 in
theorem ok_82 : aOKm m_82 = true := by decide +kernel
set_option maxRecDepth 100000 in
theorem mk_82 : aMchk m_82 = true := by decide +kernel
set_option maxRecDepth 100000 in
theorem ok_83 : aOKm m_83 = true := by decide +kernel
set_option maxRecDepth 100000 in
theorem mk_83 : aMchk m_83 = true := by decide +kernel
set_option maxRecDepth 100000 in
theorem ok_84 : aOKm m_84 = true := by decide +kernel
set_option maxRecDepth 100000 in
theorem mk_84 : aMchk m_84 = true := by decide +kernel
set_option maxRecDepth 100000 in
theorem ok_85 : aOKm m_85 = true := by decide +kernel
set_option maxRecDepth 100000 in
theorem mk_85 : aMchk m_85 = true := by decide +kernel
set_option maxRecDepth 100000 in
theorem ok_86 : aOKm m_86 = true := by decide +kernel
set_option maxRecDepth 100000 in
theorem mk_86 : aMchk m_86 = true := by decide +kernel
set_option maxRecDepth 100000 in
theorem ok_87 : aOKm m_87 = true := by decide +kernel
set_option maxRecDepth 100000 in
theorem mk_87 : aMchk m_87 = true := by decide +kernel
set_option maxRecDepth 100000 in
theorem ok_88 : aOKm m_88 = true := by decide +kernel
set_option maxRecDepth 100000 in
theorem mk_88 : aMchk m_88 = true := by decide +kernel
set_option maxRecDepth 100000 in
theorem ok_89 : aOKm m_89 = true := by decide +kernel
set_option maxRecDepth 100000 in
theorem mk_89 : aMchk m_89 = true := by decide +kernel
set_option maxRecDepth 100000 in
theorem ok_90 : aOKm m_90 = true := by decide +kernel
set_option maxRecDepth 100000 in
theorem mk_90 : aMchk m_90 = true := by decide +kernel
set_option maxRecDepth 100000 in
theorem ok_91 : aOKm m_91 = true := by decide +kernel
set_option maxRecDepth 100000 in
theorem mk_91 : aMchk m_91 = true := by decide +kernel
set_option maxRecDepth 100000 in
theorem ok_92 : aOKm m_92 = true := by decide +kernel
set_option maxRecDepth 100000 in
theorem mk_92 : aMchk m_92 = true := by decide +kernel
set_option maxRecDepth 100000 in
theorem ok_93 : aOKm m_93 = true := by decide +kernel
set_option maxRecDepth 100000 in
theorem mk_93 : aMchk m_93 = true := by decide +kernel
set_option maxRecDepth 100000 in
theorem ok_94 : aOKm m_94 = true := by decide +kernel
set_option maxRecDepth 100000 in
theorem mk_94 : aMchk m_94 = true := by decide +kernel
set_option maxRecDepth 100000 in
theorem ok_95 : aOKm m_95 = true := by decide +kernel
set_option maxRecDepth 100000 in
theorem mk_95 : aMchk m_95 = true := by decide +kernel
set_option maxRecDepth 100000 in
theorem ok_96 : aOKm m_96 = true := by decide +kernel
set_option maxRecDepth 100000 in
theorem mk_96 : aMchk m_96 = true := by decide +kernel
set_option maxRecDepth 100000 in
theorem ok_97 : aOKm m_97 = true := by decide +kernel
set_option maxRecDepth 100000 in
theorem mk_97 : aMchk m_97 = true := by decide +kernel
set_option maxRecDepth 100000 in
theorem ok_98 : aOKm m_98 = true := by decide +kernel
set_option maxRecDepth 100000 in
theorem mk_98 : aMchk m_98 = true := by decide +kernel
set_option maxRecDepth 100000 in
theorem ok_99 : aOKm m_99 = true := by decide +kernel
set_option maxRecDepth 100000 in
theorem mk_99 : aMchk m_99 = true := by decide +kernel
set_option maxRecDepth 100000 in
theorem ok_100 : aOKm m_100 = true := by decide +kernel
set_option maxRecDepth 100000 in
theorem mk_100 : aMchk m_100 = true := by decide +kernel
set_option maxRecDepth 100000 in
theorem ok_101 : aOKm m_101 = true := by decide +kernel
set_option maxRecDepth 100000 in
theorem mk_101 : aMchk m_101 = true := by decide +kernel
set_option maxRecDepth 100000 in
theorem ok_102 : aOKm m_102 = true := by decide +kernel
set_option maxRecDepth 100000 in
theorem mk_102 : aMchk m_102 = true := by decide +kernel
set_option maxRecDepth 100000 in
theorem ok_103 : aOKm m_103 = true := by decide +kernel
set_option maxRecDepth 100000 in
theorem mk_103 : aMchk m_103 = true := by decide +kernel
set_option maxRecDepth 100000 in
theorem ok_104 : aOKm m_104 = true := by decide +kernel
set_option maxRecDepth 100000 in
theorem mk_104 : aMchk m_104 = true := by decide +kernel
set_option maxRecDepth 100000 in
theorem ok_105 : aOKm m_105 = true := by decide +kernel
set_option maxRecDepth 100000 in
theorem mk_105 : aMchk m_105 = true := by decide +kernel
set_option maxRecDepth 100000 in
theorem ok_106 : aOKm m_106 = true := by decide +kernel
set_option maxRecDepth 100000 in
theorem mk_106 : aMchk m_106 = true := by decide +kernel
set_option maxRecDepth 100000 in
theorem ok_107 : aOKm m_107 = true := by decide +kernel
set_option maxRecDepth 100000 in
theorem mk_107 : aMchk m_107 = true := by decide +kernel
set_option maxRecDepth 100000 in
theorem ok_108 : aOKm m_108 = true := by decide +kernel
set_option maxRecDepth 100000 in
theorem mk_108 : aMchk m_108 = true := by decide +kernel
set_option maxRecDepth 100000 in
theorem ok_109 : aOKm m_109 = true := by decide +kernel
set_option maxRecDepth 100000 in
theorem mk_109 : aMchk m_109 = true := by decide +kernel
set_option maxRecDepth 100000 in
theorem ok_110 : aOKm m_110 = true := by decide +kernel
set_option maxRecDepth 100000 in
theorem mk_110 : aMchk m_110 = true := by decide +kernel
set_option maxRecDepth 100000 in
theorem ok_111 : aOKm m_111 = true := by decide +kernel
set_option maxRecDepth 100000 in
theorem mk_111 : aMchk m_111 = true := by decide +kernel
set_option maxRecDepth 100000 in
theorem ok_112 : aOKm m_112 = true := by decide +kernel
set_option maxRecDepth 100000 in
theorem mk_112 : aMchk m_112 = true := by decide +kernel
set_option maxRecDepth 100000 in
theorem ok_113 : aOKm m_113 = true := by decide +kernel
set_option maxRecDepth 100000 in
theorem mk_113 : aMchk m_113 = true := by decide +kernel
set_option maxRecDepth 100000 in
theorem ok_114 : aOKm m_114 = true := by decide +kernel
set_option maxRecDepth 100000 in
theorem mk_114 : aMchk m_114 = true := by decide +kernel
set_option maxRecDepth 100000 in
theorem ok_115 : aOKm m_115 = true := by decide +kernel
set_option maxRecDepth 100000 in
theorem mk_115 : aMchk m_115 = true := by decide +kernel
set_option maxRecDepth 100000 in
theorem ok_116 : aOKm m_116 = true := by decide +kernel
set_option maxRecDepth 100000 in
theorem mk_116 : aMchk m_116 = true := by decide +kernel
set_option maxRecDepth 100000 in
theorem ok_117 : aOKm m_117 = true := by decide +kernel
set_option maxRecDepth 100000 in
theorem mk_117 : aMchk m_117 = true := by decide +kernel
set_option maxRecDepth 100000 in
theorem ok_118 : aOKm m_118 = true := by decide +kernel
set_option maxRecDepth 100000 in
theorem mk_118 : aMchk m_118 = true := by decide +kernel
set_option maxRecDepth 100000 in
theorem ok_119 : aOKm m_119 = true := by decide +kernel
set_option maxRecDepth 100000 in
theorem mk_119 : aMchk m_119 = true := by decide +kernel
set_option maxRecDepth 100000 in
theorem ok_120 : aOKm m_120 = true := by decide +kernel
set_option maxRecDepth 100000 in
theorem mk_120 : aMchk m_120 = true := by decide +kernel
set_option maxRecDepth 100000 in
theorem ok_121 : aOKm m_121 = true := by decide +kernel
set_option maxRecDepth 100000 in
theorem mk_121 : aMchk m_121 = true := by decide +kernel
set_option maxRecDepth 100000 in
theorem ok_122 : aOKm m_122 = true := by decide +kernel
set_option maxRecDepth 100000 in
theorem mk_122 : aMchk m_122 = true := by decide +kernel
set_option maxRecDepth 100000 in
theorem ok_123 : aOKm m_123 = true := by decide +kernel
set_option maxRecDepth 100000 in
theorem mk_123 : aMchk m_123 = true := by decide +kernel
set_option maxRecDepth 100000 in
theorem ok_124 : aOKm m_124 = true := by decide +kernel
set_option maxRecDepth 100000 in
theorem mk_124 : aMchk m_124 = true := by decide +kernel
set_option maxRecDepth 100000 in
theorem ok_125 : aOKm m_125 = true := by decide +kernel
set_option maxRecDepth 100000 in
theorem mk_125 : aMchk m_125 = true := by decide +kernel
set_option maxRecDepth 100000 in
theorem ok_126 : aOKm m_126 = true := by decide +kernel
set_option maxRecDepth 100000 in
theorem mk_126 : aMchk m_126 = true := by decide +kernel
set_option maxRecDepth 100000 in
theorem ok_127 : aOKm m_127 = true := by decide +kernel
set_option maxRecDepth 100000 in
theorem mk_127 : aMchk m_127 = true := by decide +kernel
set_option maxRecDepth 100000 in
theorem ok_128 : aOKm m_128 = true := by decide +kernel
set_option maxRecDepth 100000 in
theorem mk_128 : aMchk m_128 = true := by decide +kernel
set_option maxRecDepth 100000 in
theorem ok_129 : aOKm m_129 = true := by decide +kernel
set_option maxRecDepth 100000 in
theorem mk_129 : aMchk m_129 = true := by decide +kernel
set_option maxRecDepth 100000 in
theorem ok_130 : aOKm m_130 = true := by decide +kernel
set_option maxRecDepth 100000 in
theorem mk_130 : aMchk m_130 = true := by decide +kernel
set_option maxRecDepth 100000 in
theorem ok_131 : aOKm m_131 = true := by decide +kernel
set_option maxRecDepth 100000 in
theorem mk_131 : aMchk m_131 = true := by decide +kernel
