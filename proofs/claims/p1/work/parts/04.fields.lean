theorem wd_113 : (Jvm.Cond.laysFinal "StreamSplitter$Row" "StreamSplitter$Row" "cells" "[B") ∈ lw_ok := List.mem_filter.mpr ⟨List.mem_of_getElem? (i := 113) (by decide +kernel), rfl⟩
theorem wd_115 : (Jvm.Cond.lays "StreamSplitter$Row" "StreamSplitter$Row" "size" "I") ∈ lw_ok := List.mem_filter.mpr ⟨List.mem_of_getElem? (i := 115) (by decide +kernel), rfl⟩
theorem wd_129 : (Jvm.Cond.laysFinal "StreamSplitter$Lanes" "StreamSplitter$Lanes" "heads" "[LStreamSplitter$Lane;") ∈ lw_ok := List.mem_filter.mpr ⟨List.mem_of_getElem? (i := 129) (by decide +kernel), rfl⟩
theorem wd_157 : (Jvm.Cond.lays "java/util/ArrayList" "java/util/ArrayList" "elementData" "[Ljava/lang/Object;") ∈ lw_ok := List.mem_filter.mpr ⟨List.mem_of_getElem? (i := 157) (by decide +kernel), rfl⟩
theorem wd_159 : (Jvm.Cond.lays "java/util/ArrayList" "java/util/ArrayList" "size" "I") ∈ lw_ok := List.mem_filter.mpr ⟨List.mem_of_getElem? (i := 159) (by decide +kernel), rfl⟩
theorem wd_161 : (Jvm.Cond.lays "java/util/ArrayList" "java/util/AbstractList" "modCount" "I") ∈ lw_ok := List.mem_filter.mpr ⟨List.mem_of_getElem? (i := 161) (by decide +kernel), rfl⟩
theorem wd_168 : (Jvm.Cond.lays "StreamSplitter$Tables" "StreamSplitter$Tables" "listVersion" "I") ∈ lw_ok := List.mem_filter.mpr ⟨List.mem_of_getElem? (i := 168) (by decide +kernel), rfl⟩
theorem wd_170 : (Jvm.Cond.lays "StreamSplitter$Tables" "StreamSplitter$Tables" "programmes" "Ljava/util/ArrayList;") ∈ lw_ok := List.mem_filter.mpr ⟨List.mem_of_getElem? (i := 170) (by decide +kernel), rfl⟩
theorem wd_184 : (Jvm.Cond.laysFinal "StreamSplitter$Receiver" "StreamSplitter$Receiver" "tape" "LStreamSplitter$Row;") ∈ lw_ok := List.mem_filter.mpr ⟨List.mem_of_getElem? (i := 184) (by decide +kernel), rfl⟩
theorem wd_186 : (Jvm.Cond.laysFinal "StreamSplitter$Receiver" "StreamSplitter$Receiver" "lanes" "LStreamSplitter$Lanes;") ∈ lw_ok := List.mem_filter.mpr ⟨List.mem_of_getElem? (i := 186) (by decide +kernel), rfl⟩
theorem wd_188 : (Jvm.Cond.laysFinal "StreamSplitter$Receiver" "StreamSplitter$Receiver" "tables" "LStreamSplitter$Tables;") ∈ lw_ok := List.mem_filter.mpr ⟨List.mem_of_getElem? (i := 188) (by decide +kernel), rfl⟩
theorem wd_190 : (Jvm.Cond.laysFinal "StreamSplitter$Receiver" "StreamSplitter$Receiver" "counts" "[I") ∈ lw_ok := List.mem_filter.mpr ⟨List.mem_of_getElem? (i := 190) (by decide +kernel), rfl⟩
theorem wd_192 : (Jvm.Cond.laysFinal "StreamSplitter$Receiver" "StreamSplitter$Receiver" "donePieces" "[LStreamSplitter$Piece;") ∈ lw_ok := List.mem_filter.mpr ⟨List.mem_of_getElem? (i := 192) (by decide +kernel), rfl⟩
theorem wd_200 : (Jvm.Cond.laysFinal "StreamSplitter" "StreamSplitter" "receiver" "LStreamSplitter$Receiver;") ∈ lw_ok := List.mem_filter.mpr ⟨List.mem_of_getElem? (i := 200) (by decide +kernel), rfl⟩
theorem wd_202 : (Jvm.Cond.laysFinal "StreamSplitter" "StreamSplitter" "drafts" "Ljava/util/ArrayList;") ∈ lw_ok := List.mem_filter.mpr ⟨List.mem_of_getElem? (i := 202) (by decide +kernel), rfl⟩
theorem wd_259 : (Jvm.Cond.laysFinal "StreamSplitter$Lane" "StreamSplitter$Lane" "pid" "I") ∈ lw_ok := List.mem_filter.mpr ⟨List.mem_of_getElem? (i := 259) (by decide +kernel), rfl⟩
theorem wd_261 : (Jvm.Cond.laysFinal "StreamSplitter$Lane" "StreamSplitter$Lane" "next" "LStreamSplitter$Lane;") ∈ lw_ok := List.mem_filter.mpr ⟨List.mem_of_getElem? (i := 261) (by decide +kernel), rfl⟩
theorem wd_263 : (Jvm.Cond.lays "StreamSplitter$Lane" "StreamSplitter$Lane" "count" "I") ∈ lw_ok := List.mem_filter.mpr ⟨List.mem_of_getElem? (i := 263) (by decide +kernel), rfl⟩
theorem wd_265 : (Jvm.Cond.lays "StreamSplitter$Lane" "StreamSplitter$Lane" "twinCame" "Z") ∈ lw_ok := List.mem_filter.mpr ⟨List.mem_of_getElem? (i := 265) (by decide +kernel), rfl⟩
theorem wd_267 : (Jvm.Cond.lays "StreamSplitter$Lane" "StreamSplitter$Lane" "clock" "J") ∈ lw_ok := List.mem_filter.mpr ⟨List.mem_of_getElem? (i := 267) (by decide +kernel), rfl⟩
theorem wd_269 : (Jvm.Cond.lays "StreamSplitter$Lane" "StreamSplitter$Lane" "written" "I") ∈ lw_ok := List.mem_filter.mpr ⟨List.mem_of_getElem? (i := 269) (by decide +kernel), rfl⟩
theorem wd_271 : (Jvm.Cond.lays "StreamSplitter$Lane" "StreamSplitter$Lane" "section" "LStreamSplitter$Row;") ∈ lw_ok := List.mem_filter.mpr ⟨List.mem_of_getElem? (i := 271) (by decide +kernel), rfl⟩
theorem wd_273 : (Jvm.Cond.lays "StreamSplitter$Lane" "StreamSplitter$Lane" "piece" "LStreamSplitter$Piece;") ∈ lw_ok := List.mem_filter.mpr ⟨List.mem_of_getElem? (i := 273) (by decide +kernel), rfl⟩
theorem wd_372 : (Jvm.Cond.lays "StreamSplitter$Piece" "StreamSplitter$Piece" "open" "Z") ∈ lw_ok := List.mem_filter.mpr ⟨List.mem_of_getElem? (i := 372) (by decide +kernel), rfl⟩
theorem wd_374 : (Jvm.Cond.lays "StreamSplitter$Piece" "StreamSplitter$Piece" "pid" "I") ∈ lw_ok := List.mem_filter.mpr ⟨List.mem_of_getElem? (i := 374) (by decide +kernel), rfl⟩
theorem wd_376 : (Jvm.Cond.lays "StreamSplitter$Piece" "StreamSplitter$Piece" "kind" "I") ∈ lw_ok := List.mem_filter.mpr ⟨List.mem_of_getElem? (i := 376) (by decide +kernel), rfl⟩
theorem wd_378 : (Jvm.Cond.lays "StreamSplitter$Piece" "StreamSplitter$Piece" "time" "J") ∈ lw_ok := List.mem_filter.mpr ⟨List.mem_of_getElem? (i := 378) (by decide +kernel), rfl⟩
theorem wd_380 : (Jvm.Cond.lays "StreamSplitter$Piece" "StreamSplitter$Piece" "bytes" "I") ∈ lw_ok := List.mem_filter.mpr ⟨List.mem_of_getElem? (i := 380) (by decide +kernel), rfl⟩
theorem wd_382 : (Jvm.Cond.lays "StreamSplitter$Piece" "StreamSplitter$Piece" "sum" "I") ∈ lw_ok := List.mem_filter.mpr ⟨List.mem_of_getElem? (i := 382) (by decide +kernel), rfl⟩
theorem wd_384 : (Jvm.Cond.lays "StreamSplitter$Piece" "StreamSplitter$Piece" "due" "I") ∈ lw_ok := List.mem_filter.mpr ⟨List.mem_of_getElem? (i := 384) (by decide +kernel), rfl⟩
theorem wd_453 : (Jvm.Cond.laysFinal "StreamSplitter$Order" "StreamSplitter$Order" "time" "J") ∈ lw_ok := List.mem_filter.mpr ⟨List.mem_of_getElem? (i := 453) (by decide +kernel), rfl⟩
theorem wd_455 : (Jvm.Cond.laysFinal "StreamSplitter$Order" "StreamSplitter$Order" "name" "I") ∈ lw_ok := List.mem_filter.mpr ⟨List.mem_of_getElem? (i := 455) (by decide +kernel), rfl⟩
theorem wd_457 : (Jvm.Cond.laysFinal "StreamSplitter$Order" "StreamSplitter$Order" "away" "Z") ∈ lw_ok := List.mem_filter.mpr ⟨List.mem_of_getElem? (i := 457) (by decide +kernel), rfl⟩
theorem wd_459 : (Jvm.Cond.laysFinal "StreamSplitter$Order" "StreamSplitter$Order" "length" "J") ∈ lw_ok := List.mem_filter.mpr ⟨List.mem_of_getElem? (i := 459) (by decide +kernel), rfl⟩
theorem wd_597 : (Jvm.Cond.laysFinal "StreamSplitter$Programme" "StreamSplitter$Programme" "number" "I") ∈ lw_ok := List.mem_filter.mpr ⟨List.mem_of_getElem? (i := 597) (by decide +kernel), rfl⟩
theorem wd_599 : (Jvm.Cond.laysFinal "StreamSplitter$Programme" "StreamSplitter$Programme" "pid" "I") ∈ lw_ok := List.mem_filter.mpr ⟨List.mem_of_getElem? (i := 599) (by decide +kernel), rfl⟩
theorem wd_601 : (Jvm.Cond.lays "StreamSplitter$Programme" "StreamSplitter$Programme" "version" "I") ∈ lw_ok := List.mem_filter.mpr ⟨List.mem_of_getElem? (i := 601) (by decide +kernel), rfl⟩
theorem wd_603 : (Jvm.Cond.lays "StreamSplitter$Programme" "StreamSplitter$Programme" "clockPid" "I") ∈ lw_ok := List.mem_filter.mpr ⟨List.mem_of_getElem? (i := 603) (by decide +kernel), rfl⟩
theorem wd_605 : (Jvm.Cond.lays "StreamSplitter$Programme" "StreamSplitter$Programme" "streams" "Ljava/util/ArrayList;") ∈ lw_ok := List.mem_filter.mpr ⟨List.mem_of_getElem? (i := 605) (by decide +kernel), rfl⟩
theorem wd_607 : (Jvm.Cond.lays "StreamSplitter$Programme" "StreamSplitter$Programme" "away" "Z") ∈ lw_ok := List.mem_filter.mpr ⟨List.mem_of_getElem? (i := 607) (by decide +kernel), rfl⟩
theorem wd_609 : (Jvm.Cond.lays "StreamSplitter$Programme" "StreamSplitter$Programme" "now" "J") ∈ lw_ok := List.mem_filter.mpr ⟨List.mem_of_getElem? (i := 609) (by decide +kernel), rfl⟩
theorem wd_611 : (Jvm.Cond.laysFinal "StreamSplitter$Programme" "StreamSplitter$Programme" "waiting" "Ljava/util/ArrayList;") ∈ lw_ok := List.mem_filter.mpr ⟨List.mem_of_getElem? (i := 611) (by decide +kernel), rfl⟩
theorem wd_643 : (Jvm.Cond.laysFinal "StreamSplitter$Stream" "StreamSplitter$Stream" "type" "I") ∈ lw_ok := List.mem_filter.mpr ⟨List.mem_of_getElem? (i := 643) (by decide +kernel), rfl⟩
theorem wd_645 : (Jvm.Cond.laysFinal "StreamSplitter$Stream" "StreamSplitter$Stream" "pid" "I") ∈ lw_ok := List.mem_filter.mpr ⟨List.mem_of_getElem? (i := 645) (by decide +kernel), rfl⟩
theorem wd_911 : (Jvm.Cond.laysFinal "StreamSplitter$Draft" "StreamSplitter$Draft" "number" "I") ∈ lw_ok := List.mem_filter.mpr ⟨List.mem_of_getElem? (i := 911) (by decide +kernel), rfl⟩
theorem wd_913 : (Jvm.Cond.laysFinal "StreamSplitter$Draft" "StreamSplitter$Draft" "pid" "I") ∈ lw_ok := List.mem_filter.mpr ⟨List.mem_of_getElem? (i := 913) (by decide +kernel), rfl⟩
theorem wd_915 : (Jvm.Cond.laysFinal "StreamSplitter$Draft" "StreamSplitter$Draft" "streams" "Ljava/util/ArrayList;") ∈ lw_ok := List.mem_filter.mpr ⟨List.mem_of_getElem? (i := 915) (by decide +kernel), rfl⟩
theorem wd_958 : (Jvm.Cond.laysFinal "StreamSplitter$Writer" "StreamSplitter$Writer" "tape" "LStreamSplitter$Row;") ∈ lw_ok := List.mem_filter.mpr ⟨List.mem_of_getElem? (i := 958) (by decide +kernel), rfl⟩
theorem wd_960 : (Jvm.Cond.laysFinal "StreamSplitter$Writer" "StreamSplitter$Writer" "lane" "LStreamSplitter$Lane;") ∈ lw_ok := List.mem_filter.mpr ⟨List.mem_of_getElem? (i := 960) (by decide +kernel), rfl⟩
theorem wd_962 : (Jvm.Cond.lays "StreamSplitter$Writer" "StreamSplitter$Writer" "left" "I") ∈ lw_ok := List.mem_filter.mpr ⟨List.mem_of_getElem? (i := 962) (by decide +kernel), rfl⟩
theorem wd_964 : (Jvm.Cond.lays "StreamSplitter$Writer" "StreamSplitter$Writer" "roomInPacket" "I") ∈ lw_ok := List.mem_filter.mpr ⟨List.mem_of_getElem? (i := 964) (by decide +kernel), rfl⟩
theorem wd_966 : (Jvm.Cond.lays "StreamSplitter$Writer" "StreamSplitter$Writer" "begun" "Z") ∈ lw_ok := List.mem_filter.mpr ⟨List.mem_of_getElem? (i := 966) (by decide +kernel), rfl⟩
theorem wd_968 : (Jvm.Cond.lays "StreamSplitter$Writer" "StreamSplitter$Writer" "sectionStart" "I") ∈ lw_ok := List.mem_filter.mpr ⟨List.mem_of_getElem? (i := 968) (by decide +kernel), rfl⟩
theorem wd_1142 : (Jvm.Cond.lays "StreamSplitterModel" "StreamSplitterModel" "thrown" "I") ∈ lw_ok := List.mem_filter.mpr ⟨List.mem_of_getElem? (i := 1142) (by decide +kernel), rfl⟩
theorem wd_1144 : (Jvm.Cond.laysFinal "StreamSplitterModel" "StreamSplitterModel" "tape" "[I") ∈ lw_ok := List.mem_filter.mpr ⟨List.mem_of_getElem? (i := 1144) (by decide +kernel), rfl⟩
theorem wd_1146 : (Jvm.Cond.lays "StreamSplitterModel" "StreamSplitterModel" "size" "I") ∈ lw_ok := List.mem_filter.mpr ⟨List.mem_of_getElem? (i := 1146) (by decide +kernel), rfl⟩
theorem wd_1148 : (Jvm.Cond.laysFinal "StreamSplitterModel" "StreamSplitterModel" "tells" "[I") ∈ lw_ok := List.mem_filter.mpr ⟨List.mem_of_getElem? (i := 1148) (by decide +kernel), rfl⟩
theorem wd_1150 : (Jvm.Cond.laysFinal "StreamSplitterModel" "StreamSplitterModel" "counts" "[I") ∈ lw_ok := List.mem_filter.mpr ⟨List.mem_of_getElem? (i := 1150) (by decide +kernel), rfl⟩
theorem wd_1152 : (Jvm.Cond.laysFinal "StreamSplitterModel" "StreamSplitterModel" "twins" "[Z") ∈ lw_ok := List.mem_filter.mpr ⟨List.mem_of_getElem? (i := 1152) (by decide +kernel), rfl⟩
theorem wd_1154 : (Jvm.Cond.laysFinal "StreamSplitterModel" "StreamSplitterModel" "clocks" "[J") ∈ lw_ok := List.mem_filter.mpr ⟨List.mem_of_getElem? (i := 1154) (by decide +kernel), rfl⟩
theorem wd_1156 : (Jvm.Cond.laysFinal "StreamSplitterModel" "StreamSplitterModel" "slotPids" "[I") ∈ lw_ok := List.mem_filter.mpr ⟨List.mem_of_getElem? (i := 1156) (by decide +kernel), rfl⟩
theorem wd_1158 : (Jvm.Cond.laysFinal "StreamSplitterModel" "StreamSplitterModel" "slotPieces" "[Z") ∈ lw_ok := List.mem_filter.mpr ⟨List.mem_of_getElem? (i := 1158) (by decide +kernel), rfl⟩
theorem wd_1160 : (Jvm.Cond.laysFinal "StreamSplitterModel" "StreamSplitterModel" "slotBytes" "[I") ∈ lw_ok := List.mem_filter.mpr ⟨List.mem_of_getElem? (i := 1160) (by decide +kernel), rfl⟩
theorem wd_1162 : (Jvm.Cond.laysFinal "StreamSplitterModel" "StreamSplitterModel" "slotSizes" "[I") ∈ lw_ok := List.mem_filter.mpr ⟨List.mem_of_getElem? (i := 1162) (by decide +kernel), rfl⟩
theorem wd_1164 : (Jvm.Cond.laysFinal "StreamSplitterModel" "StreamSplitterModel" "kinds" "[I") ∈ lw_ok := List.mem_filter.mpr ⟨List.mem_of_getElem? (i := 1164) (by decide +kernel), rfl⟩
theorem wd_1166 : (Jvm.Cond.laysFinal "StreamSplitterModel" "StreamSplitterModel" "wanted" "[I") ∈ lw_ok := List.mem_filter.mpr ⟨List.mem_of_getElem? (i := 1166) (by decide +kernel), rfl⟩
theorem wd_1168 : (Jvm.Cond.laysFinal "StreamSplitterModel" "StreamSplitterModel" "sums" "[I") ∈ lw_ok := List.mem_filter.mpr ⟨List.mem_of_getElem? (i := 1168) (by decide +kernel), rfl⟩
theorem wd_1170 : (Jvm.Cond.laysFinal "StreamSplitterModel" "StreamSplitterModel" "times" "[J") ∈ lw_ok := List.mem_filter.mpr ⟨List.mem_of_getElem? (i := 1170) (by decide +kernel), rfl⟩
theorem wd_1172 : (Jvm.Cond.laysFinal "StreamSplitterModel" "StreamSplitterModel" "section" "[I") ∈ lw_ok := List.mem_filter.mpr ⟨List.mem_of_getElem? (i := 1172) (by decide +kernel), rfl⟩
theorem wd_1174 : (Jvm.Cond.lays "StreamSplitterModel" "StreamSplitterModel" "length" "I") ∈ lw_ok := List.mem_filter.mpr ⟨List.mem_of_getElem? (i := 1174) (by decide +kernel), rfl⟩
theorem wd_1176 : (Jvm.Cond.laysFinal "StreamSplitterModel" "StreamSplitterModel" "packet" "[I") ∈ lw_ok := List.mem_filter.mpr ⟨List.mem_of_getElem? (i := 1176) (by decide +kernel), rfl⟩
theorem wd_1178 : (Jvm.Cond.lays "StreamSplitterModel" "StreamSplitterModel" "listVersion" "I") ∈ lw_ok := List.mem_filter.mpr ⟨List.mem_of_getElem? (i := 1178) (by decide +kernel), rfl⟩
theorem wd_1180 : (Jvm.Cond.lays "StreamSplitterModel" "StreamSplitterModel" "programmes" "I") ∈ lw_ok := List.mem_filter.mpr ⟨List.mem_of_getElem? (i := 1180) (by decide +kernel), rfl⟩
theorem wd_1182 : (Jvm.Cond.laysFinal "StreamSplitterModel" "StreamSplitterModel" "numbers" "[I") ∈ lw_ok := List.mem_filter.mpr ⟨List.mem_of_getElem? (i := 1182) (by decide +kernel), rfl⟩
theorem wd_1184 : (Jvm.Cond.laysFinal "StreamSplitterModel" "StreamSplitterModel" "pids" "[I") ∈ lw_ok := List.mem_filter.mpr ⟨List.mem_of_getElem? (i := 1184) (by decide +kernel), rfl⟩
theorem wd_1186 : (Jvm.Cond.laysFinal "StreamSplitterModel" "StreamSplitterModel" "versions" "[I") ∈ lw_ok := List.mem_filter.mpr ⟨List.mem_of_getElem? (i := 1186) (by decide +kernel), rfl⟩
theorem wd_1188 : (Jvm.Cond.laysFinal "StreamSplitterModel" "StreamSplitterModel" "clockPids" "[I") ∈ lw_ok := List.mem_filter.mpr ⟨List.mem_of_getElem? (i := 1188) (by decide +kernel), rfl⟩
theorem wd_1190 : (Jvm.Cond.laysFinal "StreamSplitterModel" "StreamSplitterModel" "streams" "[I") ∈ lw_ok := List.mem_filter.mpr ⟨List.mem_of_getElem? (i := 1190) (by decide +kernel), rfl⟩
theorem wd_1192 : (Jvm.Cond.laysFinal "StreamSplitterModel" "StreamSplitterModel" "aways" "[Z") ∈ lw_ok := List.mem_filter.mpr ⟨List.mem_of_getElem? (i := 1192) (by decide +kernel), rfl⟩
theorem wd_1194 : (Jvm.Cond.laysFinal "StreamSplitterModel" "StreamSplitterModel" "nows" "[J") ∈ lw_ok := List.mem_filter.mpr ⟨List.mem_of_getElem? (i := 1194) (by decide +kernel), rfl⟩
theorem wd_1196 : (Jvm.Cond.laysFinal "StreamSplitterModel" "StreamSplitterModel" "waits" "[I") ∈ lw_ok := List.mem_filter.mpr ⟨List.mem_of_getElem? (i := 1196) (by decide +kernel), rfl⟩
theorem wd_1198 : (Jvm.Cond.laysFinal "StreamSplitterModel" "StreamSplitterModel" "types" "[I") ∈ lw_ok := List.mem_filter.mpr ⟨List.mem_of_getElem? (i := 1198) (by decide +kernel), rfl⟩
theorem wd_1200 : (Jvm.Cond.laysFinal "StreamSplitterModel" "StreamSplitterModel" "streamPids" "[I") ∈ lw_ok := List.mem_filter.mpr ⟨List.mem_of_getElem? (i := 1200) (by decide +kernel), rfl⟩
theorem wd_1202 : (Jvm.Cond.laysFinal "StreamSplitterModel" "StreamSplitterModel" "orderTimes" "[J") ∈ lw_ok := List.mem_filter.mpr ⟨List.mem_of_getElem? (i := 1202) (by decide +kernel), rfl⟩
theorem wd_1204 : (Jvm.Cond.laysFinal "StreamSplitterModel" "StreamSplitterModel" "orderNames" "[I") ∈ lw_ok := List.mem_filter.mpr ⟨List.mem_of_getElem? (i := 1204) (by decide +kernel), rfl⟩
theorem wd_1206 : (Jvm.Cond.laysFinal "StreamSplitterModel" "StreamSplitterModel" "orderAways" "[Z") ∈ lw_ok := List.mem_filter.mpr ⟨List.mem_of_getElem? (i := 1206) (by decide +kernel), rfl⟩
theorem wd_1208 : (Jvm.Cond.laysFinal "StreamSplitterModel" "StreamSplitterModel" "orderLengths" "[J") ∈ lw_ok := List.mem_filter.mpr ⟨List.mem_of_getElem? (i := 1208) (by decide +kernel), rfl⟩
theorem wd_1210 : (Jvm.Cond.laysFinal "StreamSplitterModel" "StreamSplitterModel" "oldInts" "[I") ∈ lw_ok := List.mem_filter.mpr ⟨List.mem_of_getElem? (i := 1210) (by decide +kernel), rfl⟩
theorem wd_1212 : (Jvm.Cond.laysFinal "StreamSplitterModel" "StreamSplitterModel" "oldAways" "[Z") ∈ lw_ok := List.mem_filter.mpr ⟨List.mem_of_getElem? (i := 1212) (by decide +kernel), rfl⟩
theorem wd_1214 : (Jvm.Cond.laysFinal "StreamSplitterModel" "StreamSplitterModel" "oldNows" "[J") ∈ lw_ok := List.mem_filter.mpr ⟨List.mem_of_getElem? (i := 1214) (by decide +kernel), rfl⟩
theorem wd_1216 : (Jvm.Cond.laysFinal "StreamSplitterModel" "StreamSplitterModel" "oldTypes" "[I") ∈ lw_ok := List.mem_filter.mpr ⟨List.mem_of_getElem? (i := 1216) (by decide +kernel), rfl⟩
theorem wd_1218 : (Jvm.Cond.laysFinal "StreamSplitterModel" "StreamSplitterModel" "oldStreamPids" "[I") ∈ lw_ok := List.mem_filter.mpr ⟨List.mem_of_getElem? (i := 1218) (by decide +kernel), rfl⟩
theorem wd_1220 : (Jvm.Cond.laysFinal "StreamSplitterModel" "StreamSplitterModel" "oldTimes" "[J") ∈ lw_ok := List.mem_filter.mpr ⟨List.mem_of_getElem? (i := 1220) (by decide +kernel), rfl⟩
theorem wd_1222 : (Jvm.Cond.laysFinal "StreamSplitterModel" "StreamSplitterModel" "oldNames" "[I") ∈ lw_ok := List.mem_filter.mpr ⟨List.mem_of_getElem? (i := 1222) (by decide +kernel), rfl⟩
theorem wd_1224 : (Jvm.Cond.laysFinal "StreamSplitterModel" "StreamSplitterModel" "oldOrderAways" "[Z") ∈ lw_ok := List.mem_filter.mpr ⟨List.mem_of_getElem? (i := 1224) (by decide +kernel), rfl⟩
theorem wd_1226 : (Jvm.Cond.laysFinal "StreamSplitterModel" "StreamSplitterModel" "oldLengths" "[J") ∈ lw_ok := List.mem_filter.mpr ⟨List.mem_of_getElem? (i := 1226) (by decide +kernel), rfl⟩
theorem wd_1228 : (Jvm.Cond.laysFinal "StreamSplitterModel" "StreamSplitterModel" "done" "[J") ∈ lw_ok := List.mem_filter.mpr ⟨List.mem_of_getElem? (i := 1228) (by decide +kernel), rfl⟩
theorem wd_1230 : (Jvm.Cond.lays "StreamSplitterModel" "StreamSplitterModel" "pieces" "I") ∈ lw_ok := List.mem_filter.mpr ⟨List.mem_of_getElem? (i := 1230) (by decide +kernel), rfl⟩
theorem wd_1232 : (Jvm.Cond.lays "StreamSplitterModel" "StreamSplitterModel" "plans" "I") ∈ lw_ok := List.mem_filter.mpr ⟨List.mem_of_getElem? (i := 1232) (by decide +kernel), rfl⟩
theorem wd_1234 : (Jvm.Cond.laysFinal "StreamSplitterModel" "StreamSplitterModel" "planNumbers" "[I") ∈ lw_ok := List.mem_filter.mpr ⟨List.mem_of_getElem? (i := 1234) (by decide +kernel), rfl⟩
theorem wd_1236 : (Jvm.Cond.laysFinal "StreamSplitterModel" "StreamSplitterModel" "planPids" "[I") ∈ lw_ok := List.mem_filter.mpr ⟨List.mem_of_getElem? (i := 1236) (by decide +kernel), rfl⟩
theorem wd_1238 : (Jvm.Cond.laysFinal "StreamSplitterModel" "StreamSplitterModel" "planStreams" "[I") ∈ lw_ok := List.mem_filter.mpr ⟨List.mem_of_getElem? (i := 1238) (by decide +kernel), rfl⟩
theorem wd_1240 : (Jvm.Cond.laysFinal "StreamSplitterModel" "StreamSplitterModel" "planTypes" "[I") ∈ lw_ok := List.mem_filter.mpr ⟨List.mem_of_getElem? (i := 1240) (by decide +kernel), rfl⟩
theorem wd_1242 : (Jvm.Cond.laysFinal "StreamSplitterModel" "StreamSplitterModel" "planStreamPids" "[I") ∈ lw_ok := List.mem_filter.mpr ⟨List.mem_of_getElem? (i := 1242) (by decide +kernel), rfl⟩
theorem wd_1244 : (Jvm.Cond.laysFinal "StreamSplitterModel" "StreamSplitterModel" "written" "[I") ∈ lw_ok := List.mem_filter.mpr ⟨List.mem_of_getElem? (i := 1244) (by decide +kernel), rfl⟩
theorem wd_1246 : (Jvm.Cond.laysFinal "StreamSplitterModel" "StreamSplitterModel" "row" "[I") ∈ lw_ok := List.mem_filter.mpr ⟨List.mem_of_getElem? (i := 1246) (by decide +kernel), rfl⟩
theorem wd_1248 : (Jvm.Cond.lays "StreamSplitterModel" "StreamSplitterModel" "rowSize" "I") ∈ lw_ok := List.mem_filter.mpr ⟨List.mem_of_getElem? (i := 1248) (by decide +kernel), rfl⟩
theorem i_Row : ∀ w ∈ u_ws R_Row F_Row 2, w ∈ lw_ok := z_uws (fun k hk => match k, hk with
  | 0, _ => wd_113
  | 1, _ => wd_115
  | k + 2, h => absurd h (by omega))
theorem i_Lane : ∀ w ∈ u_ws R_Lane F_Lane 8, w ∈ lw_ok := z_uws (fun k hk => match k, hk with
  | 0, _ => wd_259
  | 1, _ => wd_261
  | 2, _ => wd_263
  | 3, _ => wd_265
  | 4, _ => wd_267
  | 5, _ => wd_269
  | 6, _ => wd_271
  | 7, _ => wd_273
  | k + 8, h => absurd h (by omega))
theorem i_Lanes : ∀ w ∈ u_ws R_Lanes F_Lanes 1, w ∈ lw_ok := z_uws (fun k hk => match k, hk with
  | 0, _ => wd_129
  | k + 1, h => absurd h (by omega))
theorem i_Piece : ∀ w ∈ u_ws R_Piece F_Piece 7, w ∈ lw_ok := z_uws (fun k hk => match k, hk with
  | 0, _ => wd_372
  | 1, _ => wd_374
  | 2, _ => wd_376
  | 3, _ => wd_378
  | 4, _ => wd_380
  | 5, _ => wd_382
  | 6, _ => wd_384
  | k + 7, h => absurd h (by omega))
theorem i_Receiver : ∀ w ∈ u_ws R_Receiver F_Receiver 5, w ∈ lw_ok := z_uws (fun k hk => match k, hk with
  | 0, _ => wd_184
  | 1, _ => wd_186
  | 2, _ => wd_188
  | 3, _ => wd_190
  | 4, _ => wd_192
  | k + 5, h => absurd h (by omega))
theorem i_Stream : ∀ w ∈ u_ws R_Stream F_Stream 2, w ∈ lw_ok := z_uws (fun k hk => match k, hk with
  | 0, _ => wd_643
  | 1, _ => wd_645
  | k + 2, h => absurd h (by omega))
theorem i_Order : ∀ w ∈ u_ws R_Order F_Order 4, w ∈ lw_ok := z_uws (fun k hk => match k, hk with
  | 0, _ => wd_453
  | 1, _ => wd_455
  | 2, _ => wd_457
  | 3, _ => wd_459
  | k + 4, h => absurd h (by omega))
theorem i_Programme : ∀ w ∈ u_ws R_Programme F_Programme 8, w ∈ lw_ok := z_uws (fun k hk => match k, hk with
  | 0, _ => wd_597
  | 1, _ => wd_599
  | 2, _ => wd_601
  | 3, _ => wd_603
  | 4, _ => wd_605
  | 5, _ => wd_607
  | 6, _ => wd_609
  | 7, _ => wd_611
  | k + 8, h => absurd h (by omega))
theorem i_Tables : ∀ w ∈ u_ws R_Tables F_Tables 2, w ∈ lw_ok := z_uws (fun k hk => match k, hk with
  | 0, _ => wd_168
  | 1, _ => wd_170
  | k + 2, h => absurd h (by omega))
theorem i_Draft : ∀ w ∈ u_ws R_Draft F_Draft 3, w ∈ lw_ok := z_uws (fun k hk => match k, hk with
  | 0, _ => wd_911
  | 1, _ => wd_913
  | 2, _ => wd_915
  | k + 3, h => absurd h (by omega))
theorem i_Writer : ∀ w ∈ u_ws R_Writer F_Writer 6, w ∈ lw_ok := z_uws (fun k hk => match k, hk with
  | 0, _ => wd_958
  | 1, _ => wd_960
  | 2, _ => wd_962
  | 3, _ => wd_964
  | 4, _ => wd_966
  | 5, _ => wd_968
  | k + 6, h => absurd h (by omega))
theorem i_SS : ∀ w ∈ u_ws R_SS F_SS 2, w ∈ lw_ok := z_uws (fun k hk => match k, hk with
  | 0, _ => wd_200
  | 1, _ => wd_202
  | k + 2, h => absurd h (by omega))
theorem i_AL : ∀ w ∈ u_ws R_AL F_AL 3, w ∈ lw_ok := z_uws (fun k hk => match k, hk with
  | 0, _ => wd_157
  | 1, _ => wd_159
  | 2, _ => wd_161
  | k + 3, h => absurd h (by omega))
theorem i_Mo : ∀ w ∈ u_ws R_Mo F_Mo 54, w ∈ lw_ok := z_uws (fun k hk => match k, hk with
  | 0, _ => wd_1142
  | 1, _ => wd_1144
  | 2, _ => wd_1146
  | 3, _ => wd_1148
  | 4, _ => wd_1150
  | 5, _ => wd_1152
  | 6, _ => wd_1154
  | 7, _ => wd_1156
  | 8, _ => wd_1158
  | 9, _ => wd_1160
  | 10, _ => wd_1162
  | 11, _ => wd_1164
  | 12, _ => wd_1166
  | 13, _ => wd_1168
  | 14, _ => wd_1170
  | 15, _ => wd_1172
  | 16, _ => wd_1174
  | 17, _ => wd_1176
  | 18, _ => wd_1178
  | 19, _ => wd_1180
  | 20, _ => wd_1182
  | 21, _ => wd_1184
  | 22, _ => wd_1186
  | 23, _ => wd_1188
  | 24, _ => wd_1190
  | 25, _ => wd_1192
  | 26, _ => wd_1194
  | 27, _ => wd_1196
  | 28, _ => wd_1198
  | 29, _ => wd_1200
  | 30, _ => wd_1202
  | 31, _ => wd_1204
  | 32, _ => wd_1206
  | 33, _ => wd_1208
  | 34, _ => wd_1210
  | 35, _ => wd_1212
  | 36, _ => wd_1214
  | 37, _ => wd_1216
  | 38, _ => wd_1218
  | 39, _ => wd_1220
  | 40, _ => wd_1222
  | 41, _ => wd_1224
  | 42, _ => wd_1226
  | 43, _ => wd_1228
  | 44, _ => wd_1230
  | 45, _ => wd_1232
  | 46, _ => wd_1234
  | 47, _ => wd_1236
  | 48, _ => wd_1238
  | 49, _ => wd_1240
  | 50, _ => wd_1242
  | 51, _ => wd_1244
  | 52, _ => wd_1246
  | 53, _ => wd_1248
  | k + 54, h => absurd h (by omega))
